/** Terms 1 and promises 1 to 12: a test for each sentence that names a boundary, told ahead of it. */
final class LandEdgesTest {
  private static final int[][] SIZES = {{2, 2}, {2, 16}, {16, 2}, {16, 16}, {3, 5}};

  public static void main(String[] args) {
    atFirst();
    eachSize();
    numbers();
    newMap();
    brookStays();
    set();
    tiltAt999();
    tiltAt0();
    tiltGoesRound();
    tiltAtItsLimits();
    hillOfOneField();
    hillAtItsRadius();
    hillAt999();
    hillAt0();
    hillTowards0();
    hillOverTheEdge();
    digOneField();
    digAsHigh();
    digFromCornerToCorner();
    digCutDownwards();
    smoothAtTheEdge();
    smoothInside();
    smoothCuts();
    wearByFlow();
    wearByHalf();
    wearOfEnds();
    fill();
    setBrook();
    map();
    height();
    Due.end();
  }

  /** "12 and 12, at first"; "HEIGHT (0 at first)"; "BROOK (5, at first)". */
  private static void atFirst() {
    WatershedMap map = new WatershedMap();
    Due.is("1: W", map.map(0), 12);
    Due.is("1: H", map.map(1), 12);
    Due.is("1: the FIELD in the last corner", map.water(11, 11, 2), 143);
    Due.noField(map, "1: height(12, 11)", () -> map.height(12, 11));
    Due.noField(map, "1: height(11, 12)", () -> map.height(11, 12));
    Due.is("1: the least HEIGHT", map.map(2), 0);
    Due.is("1: the greatest HEIGHT", map.map(3), 0);
    Due.is("1: BROOK", map.setBrook(5), 5);
  }

  /** "2 to 16 each"; "x from 0 to W - 1, y from 0 to H - 1". */
  private static void eachSize() {
    for (int w = 2; w <= 16; w++) {
      for (int h = 2; h <= 16; h++) {
        size(w, h);
      }
    }
  }

  private static void size(int w, int h) {
    WatershedMap map = new WatershedMap();
    String text = "2: " + w + " times " + h + ": ";
    Due.is(text + "reset", map.reset(w, h), w * h);
    Due.is(text + "W", map.map(0), w);
    Due.is(text + "H", map.map(1), h);
    Due.is(text + "set in the last corner", map.set(w - 1, h - 1, 999), 0);
    Due.is(text + "the sum", map.map(4), 999);
    Due.noField(map, text + "right of it", () -> map.height(w, h - 1));
    Due.noField(map, text + "below it", () -> map.height(w - 1, h));
  }

  /** "the NUMBER of a FIELD is y * W + x". */
  private static void numbers() {
    for (int[] size : SIZES) {
      WatershedMap map = new WatershedMap();
      map.reset(size[0], size[1]);
      for (int y = 0; y < size[1]; y++) {
        for (int x = 0; x < size[0]; x++) {
          Due.is("2: NUMBER of " + x + ", " + y + " with W " + size[0], map.water(x, y, 2), y * size[0] + x);
        }
      }
    }
  }

  /** "Makes a new MAP, all HEIGHTS 0": of the same size, a smaller one, a larger one. */
  private static void newMap() {
    WatershedMap map = Maps.flat(3, 3, 999);
    Due.is("2: reset(3, 3)", map.reset(3, 3), 9);
    Due.is("2: all 0", Maps.rows(map), "0 0 0 / 0 0 0 / 0 0 0");
    map.set(2, 2, 5);
    Due.is("2: reset(2, 2)", map.reset(2, 2), 4);
    Due.is("2: all 0, smaller", Maps.rows(map), "0 0 / 0 0");
    map.set(1, 1, 5);
    Due.is("2: reset(16, 16)", map.reset(16, 16), 256);
    Due.is("2: all 0, larger", map.map(3), 0);
    Due.is("2: water finds the new EDGE", map.water(15, 7, 0), 8);
    Due.is("2: water finds the new inside", map.water(1, 1, 0), 9);
  }

  /** "BROOK stays". */
  private static void brookStays() {
    for (int brook : new int[] {1, 5, 100}) {
      WatershedMap map = new WatershedMap();
      map.setBrook(brook);
      map.reset(2, 2);
      Due.is("2: BROOK " + brook + " stays", map.setBrook(7), brook);
    }
  }

  /** "height is not 0 to 999". */
  private static void set() {
    for (int[] size : SIZES) {
      WatershedMap map = new WatershedMap();
      map.reset(size[0], size[1]);
      for (int corner = 0; corner < 4; corner++) {
        int x = corner % 2 * (size[0] - 1);
        int y = corner / 2 * (size[1] - 1);
        Due.is("3: set to 999", map.set(x, y, 999), 0);
        Due.is("3: set to 999 again", map.set(x, y, 999), 999);
        Due.is("3: set to 0", map.set(x, y, 0), 999);
        Due.illegal(map, "3: set to -1", () -> map.set(x, y, -1));
        Due.illegal(map, "3: set to 1000", () -> map.set(x, y, 1000));
      }
    }
  }

  /** "what would be above that is 999": 998, 999, 999 and 1000. */
  private static void tiltAt999() {
    WatershedMap map = Maps.of("998 998", "999 998");
    Due.is("4: tilt(1, 1, 0) up to 1000", map.tilt(1, 1, 0), 999);
    Due.is("4: not above 999", Maps.rows(map), "998 999 / 999 999");
  }

  /** "what would be below is 0": 1, 0 and -1. */
  private static void tiltAt0() {
    WatershedMap map = Maps.of("1 1", "0 1");
    Due.is("4: tilt(-1, -1, 0) down to -1", map.tilt(-1, -1, 0), 1);
    Due.is("4: not below 0", Maps.rows(map), "1 0 / 0 0");
  }

  /** "% 17": a bump of 16, of 17, which is 0, and of the last FIELD that there can be. */
  private static void tiltGoesRound() {
    WatershedMap map = new WatershedMap();
    map.reset(16, 16);
    Due.is("4: tilt(0, 0, 1)", map.tilt(0, 0, 1), 16);
    Due.is("4: (12 * 7) % 17", map.height(12, 0), 16);
    Due.is("4: (6 * 7 + 13 + 6 * 5) % 17", map.height(6, 1), 0);
    Due.is("4: (15 * 7 + 15 * 13 + 15 * 15 * 5) % 17", map.height(15, 15), 14);
    Due.is("4: tilt(0, 0, -1)", map.tilt(0, 0, -1), 0);
  }

  /** "if one of them is not -100 to 100". */
  private static void tiltAtItsLimits() {
    WatershedMap map = new WatershedMap();
    map.reset(2, 2);
    Due.is("4: tilt(100, 0, 0)", map.tilt(100, 0, 0), 100);
    Due.is("4: tilt(0, 100, 0)", map.tilt(0, 100, 0), 200);
    Due.is("4: across and along", Maps.rows(map), "0 100 / 100 200");
    Due.is("4: tilt(0, 0, 100)", map.tilt(0, 0, 100), 999);
    Due.is("4: rough", Maps.rows(map), "0 800 / 999 999");
    Due.is("4: tilt(-100, 0, 0)", map.tilt(-100, 0, 0), 999);
    Due.is("4: tilt(0, -100, 0)", map.tilt(0, -100, 0), 899);
    Due.is("4: tilt(0, 0, -100)", map.tilt(0, 0, -100), 0);
    Due.is("4: tilt(0, 0, 0)", map.tilt(0, 0, 0), 0);
    WatershedMap large = new WatershedMap();
    large.reset(16, 16);
    Due.is("4: tilt(100, 100, 100)", large.tilt(100, 100, 100), 999);
    Due.is("4: FIELD 0 gets nothing", large.height(0, 0), 0);
    Due.is("4: the last FIELD gets 4400", large.height(15, 15), 999);
  }

  /** "radius is not 0 to 8": with 0 that FIELD alone. */
  private static void hillOfOneField() {
    WatershedMap map = Maps.flat(3, 3, 500);
    Due.is("5: hill(1, 1, 0, 400)", map.hill(1, 1, 0, 400), 1);
    Due.is("5: hill(2, 2, 0, -400)", map.hill(2, 2, 0, -400), 1);
    Due.is("5: hill(0, 0, 0, 0)", map.hill(0, 0, 0, 0), 0);
    Due.is("5: alone", Maps.rows(map), "500 500 500 / 500 900 500 / 500 500 100");
  }

  /** "not above radius * radius": just at it, and one more. */
  private static void hillAtItsRadius() {
    WatershedMap map = new WatershedMap();
    map.reset(16, 16);
    // of the 197 FIELDS round a middle 41 are inside each quarter, 8 on each arm
    Due.is("5: hill(0, 0, 8, 500)", map.hill(0, 0, 8, 500), 1 + 2 * 8 + 41);
    Due.is("5: the middle", map.height(0, 0), 500);
    Due.is("5: 64 from it, along x", map.height(8, 0), 500 - 32000 / 65);
    Due.is("5: 64 from it, along y", map.height(0, 8), 8);
    Due.is("5: 65 from it", map.height(8, 1), 0);
    Due.is("5: 61 from it", map.height(5, 6), 500 - 30500 / 65);
    Due.is("5: 72 from it", map.height(6, 6), 0);
    Due.is("5: 81 from it", map.height(9, 0), 0);
    WatershedMap small = new WatershedMap();
    small.reset(3, 3);
    Due.is("5: hill(1, 1, 1, 10)", small.hill(1, 1, 1, 10), 5);
    Due.is("5: not 2 from it with radius 1", Maps.rows(small), "0 5 0 / 5 10 5 / 0 5 0");
  }

  /** "what would be above that is 999"; "how many HEIGHTS are other ones then". */
  private static void hillAt999() {
    WatershedMap map = Maps.of("499 500", "999 998");
    Due.is("5: 499 + 500", map.hill(0, 0, 0, 500), 1);
    Due.is("5: 500 + 500", map.hill(1, 0, 0, 500), 1);
    Due.is("5: 999 + 500 is no other one", map.hill(0, 1, 0, 500), 0);
    Due.is("5: 998 + 1", map.hill(1, 1, 0, 1), 1);
    Due.is("5: all 999", Maps.rows(map), "999 999 / 999 999");
    Due.is("5: 999 + 1", map.hill(1, 1, 8, 1), 0);
  }

  /** "what would be below is 0"; "how many HEIGHTS are other ones then". */
  private static void hillAt0() {
    WatershedMap map = Maps.of("500 499", "0 1");
    Due.is("5: 500 - 500", map.hill(0, 0, 0, -500), 1);
    Due.is("5: 499 - 500", map.hill(1, 0, 0, -500), 1);
    Due.is("5: 0 - 500 is no other one", map.hill(0, 1, 0, -500), 0);
    Due.is("5: 1 - 1", map.hill(1, 1, 0, -1), 1);
    Due.is("5: all 0", Maps.rows(map), "0 0 / 0 0");
    Due.is("5: 0 - 1", map.hill(1, 1, 8, -1), 0);
  }

  /** "/ is cut towards 0": 1 * 1 / 2, and -1 * 1 / 2. */
  private static void hillTowards0() {
    WatershedMap map = Maps.flat(2, 2, 9);
    Due.is("5: hill(0, 0, 1, 1)", map.hill(0, 0, 1, 1), 3);
    Due.is("5: 1 - 1 / 2", Maps.rows(map), "10 10 / 10 9");
    Due.is("5: hill(0, 0, 1, -1)", map.hill(0, 0, 1, -1), 3);
    Due.is("5: -1 - -1 / 2", Maps.rows(map), "9 9 / 9 9");
    Due.is("5: hill(0, 0, 1, 0)", map.hill(0, 0, 1, 0), 0);
  }

  /** "all FIELDS that are not farther": those that there are, in each corner. */
  private static void hillOverTheEdge() {
    int[][] corners = {{0, 0}, {2, 0}, {0, 2}, {2, 2}};
    String[] due = {"4 2 0 / 2 0 0 / 0 0 0", "0 2 4 / 0 0 2 / 0 0 0", "0 0 0 / 2 0 0 / 4 2 0", "0 0 0 / 0 0 2 / 0 2 4"};
    for (int k = 0; k < 4; k++) {
      WatershedMap map = new WatershedMap();
      map.reset(3, 3);
      Due.is("5: hill in corner " + k, map.hill(corners[k][0], corners[k][1], 1, 4), 3);
      Due.is("5: the HEIGHTS", Maps.rows(map), due[k]);
    }
    WatershedMap smallest = new WatershedMap();
    smallest.reset(2, 2);
    Due.is("5: hill on the smallest MAP", smallest.hill(1, 1, 8, 500), 4);
    Due.is("5: its HEIGHTS", Maps.rows(smallest), "485 493 / 493 500");
  }

  /** "with n 0 that FIELD"; height 0 and 999. */
  private static void digOneField() {
    WatershedMap map = Maps.flat(2, 2, 999);
    Due.is("6: dig(0, 0, 0, 0, 999)", map.dig(0, 0, 0, 0, 999), 0);
    Due.is("6: dig(0, 0, 0, 0, 998)", map.dig(0, 0, 0, 0, 998), 1);
    Due.is("6: dig(1, 1, 1, 1, 0)", map.dig(1, 1, 1, 1, 0), 1);
    Due.is("6: those alone", Maps.rows(map), "998 999 / 999 0");
  }

  /** "are at most as high as height then": lower ones and those just as high stay. */
  private static void digAsHigh() {
    WatershedMap map = Maps.of("4 5 6 0", "9 9 9 9");
    Due.is("6: dig(0, 0, 3, 0, 5)", map.dig(0, 0, 3, 0, 5), 1);
    Due.is("6: none is raised", Maps.rows(map), "4 5 5 0 / 9 9 9 9");
    Due.is("6: n 1", map.dig(3, 1, 2, 1, 8), 2);
    Due.is("6: both FIELDS", Maps.rows(map), "4 5 5 0 / 9 9 8 8");
  }

  /** "k from 0 to n": with the greatest n. */
  private static void digFromCornerToCorner() {
    WatershedMap map = Maps.flat(16, 16, 1);
    Due.is("6: dig(0, 0, 15, 15, 0)", map.dig(0, 0, 15, 15, 0), 16);
    Due.is("6: dig(15, 0, 0, 15, 0)", map.dig(15, 0, 0, 15, 0), 16);
    Due.is("6: dig(0, 0, 15, 0, 0)", map.dig(0, 0, 15, 0, 0), 14);
    Due.is("6: dig(15, 15, 15, 0, 0)", map.dig(15, 15, 15, 0, 0), 14);
    Due.is("6: what is left", map.map(4), 256 - 60);
  }

  /** "here / is cut downwards": behind 3 of 4 steps a quarter of a step up, and a half of one. */
  private static void digCutDownwards() {
    WatershedMap map = Maps.flat(5, 2, 9);
    Due.is("6: dig(0, 1, 4, 0, 1)", map.dig(0, 1, 4, 0, 1), 5);
    Due.is("6: -2 / 8 is -1", Maps.rows(map), "9 9 9 1 1 / 1 1 1 9 9");
    WatershedMap across = Maps.flat(2, 5, 9);
    Due.is("6: dig(1, 0, 0, 4, 1)", across.dig(1, 0, 0, 4, 1), 5);
    Due.is("6: -2 / 8 is -1, along x", Maps.rows(across), "9 1 / 9 1 / 9 1 / 1 9 / 1 9");
    WatershedMap half = Maps.flat(3, 2, 9);
    Due.is("6: dig(0, 0, 2, 1, 1)", half.dig(0, 0, 2, 1, 1), 3);
    Due.is("6: 4 / 4 is 1", Maps.rows(half), "1 9 9 / 9 1 1");
  }

  /** "itself in place of each that there is not": a corner, the EDGE, the smallest MAP. */
  private static void smoothAtTheEdge() {
    WatershedMap corner = new WatershedMap();
    corner.reset(16, 16);
    corner.set(15, 15, 8);
    Due.is("7: smooth() of a corner", corner.smooth(), 3);
    Due.is("7: the corner", corner.height(15, 15), 6);
    Due.is("7: left of it", corner.height(14, 15), 1);
    Due.is("7: above it", corner.height(15, 14), 1);
    WatershedMap edge = Maps.of("0 0 0", "8 0 0", "0 0 0");
    Due.is("7: smooth() of an EDGE", edge.smooth(), 4);
    Due.is("7: the EDGE", Maps.rows(edge), "1 0 0 / 5 1 0 / 1 0 0");
    WatershedMap smallest = Maps.of("8 0", "0 0");
    Due.is("7: smooth() of the smallest MAP", smallest.smooth(), 3);
    Due.is("7: the smallest MAP", Maps.rows(smallest), "6 1 / 1 0");
  }

  /** "its NEIGHBOURS that are not SLANTED"; "as all were ahead of that". */
  private static void smoothInside() {
    WatershedMap map = Maps.of("0 0 0 0", "0 64 64 0", "0 0 0 0");
    Due.is("7: smooth() inside", map.smooth(), 8);
    Due.is("7: the HEIGHTS", Maps.rows(map), "0 8 8 0 / 8 40 40 8 / 0 8 8 0");
  }

  /** "/ 8", cut: nothing is left of 1, and 999 stays. */
  private static void smoothCuts() {
    WatershedMap one = Maps.of("0 0 0", "0 1 0", "0 0 0");
    Due.is("7: smooth() of 1", one.smooth(), 1);
    Due.is("7: nothing is left", one.map(4), 0);
    Due.is("7: smooth() of all 0", one.smooth(), 0);
    Due.is("7: smooth() of all 999", Maps.flat(16, 16, 999).smooth(), 0);
    WatershedMap dent = Maps.of("999 999 999", "999 998 999", "999 999 999");
    Due.is("7: smooth() of a dent", dent.smooth(), 4);
    Due.is("7: 7991 / 8 is 998", Maps.rows(dent), "999 998 999 / 998 998 998 / 999 998 999");
  }

  /** "by * FLOW / 10", cut; "by is not 1 to 50". */
  private static void wearByFlow() {
    int[][] dues = {{1, 0}, {9, 0}, {10, 2}, {19, 2}, {20, 4}, {49, 8}, {50, 10}};
    for (int[] due : dues) {
      WatershedMap map = Maps.of("99 0", "99 0");
      Due.is("8: wear(" + due[0] + ") of two FLOWS of 1", map.wear(due[0]), due[1]);
      Due.is("8: both lose as much", map.height(0, 1), 99 - due[1] / 2);
      Due.is("8: what is OUT loses nothing", map.height(1, 1), 0);
    }
    WatershedMap slope = new WatershedMap();
    slope.reset(11, 2);
    slope.tilt(10, 0, 0);
    Due.is("8: wear(1) of FLOWS up to 10", slope.wear(1), 2);
    Due.is("8: a FLOW of 9", slope.height(2, 0), 20);
    Due.is("8: a FLOW of 10", slope.height(1, 0), 9);
  }

  /** "at most by (its HEIGHT - that of the NEIGHBOUR) / 2", cut: differences of 1, 2, 3, 9, 10 and 11. */
  private static void wearByHalf() {
    int[][] dues = {{1, 0}, {2, 1}, {3, 1}, {9, 4}, {10, 5}, {11, 5}};
    for (int[] due : dues) {
      WatershedMap map = Maps.of(due[0] + " 0", due[0] + " 0");
      Due.is("8: wear(50) of differences of " + due[0], map.wear(50), 2 * due[1]);
      Due.is("8: what is left", map.height(0, 0), due[0] - due[1]);
    }
    Due.is("8: wear(50) at most", Maps.of("999 0", "999 0").wear(50), 10);
  }

  /** "from which water goes to a NEIGHBOUR": not from a PIT, nor from what is OUT. */
  private static void wearOfEnds() {
    WatershedMap map = Maps.of("9 9 9", "9 5 9", "9 9 9");
    Due.is("8: wear(50) round a PIT", map.wear(50), 16);
    Due.is("8: the PIT loses nothing", Maps.rows(map), "7 7 7 / 7 5 7 / 7 7 7");
    Due.is("8: wear(50) of the smallest plain", Maps.flat(2, 2, 999).wear(50), 0);
    Due.is("8: wear(50) of the largest plain", Maps.flat(16, 16, 999).wear(50), 0);
    WatershedMap slope = Maps.slope(16, 16);
    slope.wear(50);
    Due.is("8: a FLOW of 256 that is OUT", slope.height(0, 0), 0);
  }

  /** "Fills all LAKES": none, one of depth 1, the largest one, two at once. */
  private static void fill() {
    Due.is("9: fill() of the smallest MAP", Maps.of("0 999", "999 0").fill(), 0);
    Due.is("9: fill() of a plain", Maps.flat(16, 16, 999).fill(), 0);
    Due.is("9: fill() of depth 1", Maps.of("1 1 1", "1 0 1", "1 1 1").fill(), 1);
    WatershedMap basin = Maps.basin();
    Due.is("9: fill() of the largest LAKE", basin.fill(), 196 * 999);
    Due.is("9: all are 999", basin.map(2), 999);
    Due.is("9: fill() of none that is left", basin.fill(), 0);
    WatershedMap two = Maps.of("9 9 9 9", "5 1 9 9", "9 9 2 9", "9 9 9 9");
    Due.is("9: fill() of two", two.fill(), 4 + 7);
    Due.is("9: each to its LEVEL", Maps.rows(two), "9 9 9 9 / 5 5 9 9 / 9 9 9 9 / 9 9 9 9");
  }

  /** "brook is not 1 to 100". */
  private static void setBrook() {
    WatershedMap map = new WatershedMap();
    Due.is("10: setBrook(1)", map.setBrook(1), 5);
    Due.illegal(map, "10: setBrook(0)", () -> map.setBrook(0));
    Due.is("10: setBrook(1) again", map.setBrook(1), 1);
    Due.is("10: setBrook(100)", map.setBrook(100), 1);
    Due.illegal(map, "10: setBrook(101)", () -> map.setBrook(101));
    Due.is("10: 100 was the one before", map.setBrook(50), 100);
  }

  private static void mapIs(WatershedMap map, int... due) {
    for (int what = 0; what <= 4; what++) {
      Due.is("11: map(" + what + ")", map.map(what), due[what]);
    }
  }

  /** "2 the least HEIGHT, 3 the greatest HEIGHT, 4 the sum of all": in the first FIELD and in the last one. */
  private static void map() {
    mapIs(Maps.flat(2, 2, 0), 2, 2, 0, 0, 0);
    mapIs(Maps.flat(16, 16, 999), 16, 16, 999, 999, 256 * 999);
    mapIs(Maps.of("0 5 5", "5 5 999"), 3, 2, 0, 999, 1019);
    mapIs(Maps.of("999 5", "5 5", "5 0"), 2, 3, 0, 999, 1019);
  }

  /** "if there is no such FIELD": the corners and what is beside them. */
  private static void height() {
    WatershedMap map = new WatershedMap();
    map.reset(16, 16);
    map.set(0, 0, 1);
    map.set(15, 0, 2);
    map.set(0, 15, 3);
    map.set(15, 15, 999);
    Due.is("12: height(0, 0)", map.height(0, 0), 1);
    Due.is("12: height(15, 0)", map.height(15, 0), 2);
    Due.is("12: height(0, 15)", map.height(0, 15), 3);
    Due.is("12: height(15, 15)", map.height(15, 15), 999);
    Due.noField(map, "12: height(-1, 1) is not (15, 0)", () -> map.height(-1, 1));
    Due.noField(map, "12: height(16, 0) is not (0, 1)", () -> map.height(16, 0));
    Due.noField(map, "12: height(0, -1)", () -> map.height(0, -1));
    Due.noField(map, "12: height(0, 16)", () -> map.height(0, 16));
  }
}
