/** Terms 2 and promises 13 to 17: a test for each sentence that names a boundary, told ahead of it. */
final class WaterEdgesTest {
  private static final int[] DX = {1, 1, 0, -1, -1, -1, 0, 1};
  private static final int[] DY = {0, 1, 1, 1, 0, -1, -1, -1};
  private static final int[][] SIZES = {{2, 2}, {2, 16}, {16, 2}, {4, 3}, {16, 16}};
  /** All water goes down the left side: with FLOWS of 2, 4 and 6. */
  private static final String[] SIDE = {"0 50", "5 50", "9 50"};

  public static void main(String[] args) {
    oneLowerNeighbour();
    noFartherField();
    outOrPit();
    tiesOfTwo();
    slantedFalls();
    fallOfOne();
    leastAndGreatestFlow();
    brookAndFlow();
    ranks();
    threeOfOneRank();
    twoOfTheGreatestRank();
    noStream();
    streamAtBrook100();
    distances();
    basins();
    pits();
    longestStream();
    Due.end();
  }

  private static boolean isField(int[] size, int x, int y) {
    return x >= 0 && y >= 0 && x < size[0] && y < size[1];
  }

  private static boolean atEdge(int[] size, int x, int y) {
    return x == 0 || y == 0 || x == size[0] - 1 || y == size[1] - 1;
  }

  /** The corners, FIELDS beside them and inside. */
  private static int[][] places(int[] size) {
    int w = size[0];
    int h = size[1];
    return new int[][] {{0, 0}, {w - 1, 0}, {0, h - 1}, {w - 1, h - 1}, {1, 0}, {0, 1}, {w - 1, h - 2}, {w - 2, h - 1},
        {1, 1}, {w - 2, h - 2}};
  }

  /** "NEIGHBOURS of a FIELD are those FIELDS, in these DIRECTIONS": each one, from corners, the EDGE and inside. */
  private static void oneLowerNeighbour() {
    for (int[] size : SIZES) {
      for (int[] place : places(size)) {
        WatershedMap map = Maps.flat(size[0], size[1], 9);
        for (int d = 0; d < 8; d++) {
          int x = place[0] + DX[d];
          int y = place[1] + DY[d];
          if (isField(size, x, y)) {
            map.set(x, y, 8);
            String from = place[0] + ", " + place[1];
            Due.is("13: from " + from + " in DIRECTION " + d, map.water(place[0], place[1], 0), d);
            map.set(x, y, 9);
          }
        }
      }
    }
  }

  /** Other FIELDS than these are none: not two on, and not round from one side of the MAP to the other. */
  private static void noFartherField() {
    for (int[] size : SIZES) {
      for (int[] place : places(size)) {
        WatershedMap map = new WatershedMap();
        map.reset(size[0], size[1]);
        map.set(place[0], place[1], 9);
        for (int d = 0; d < 8; d++) {
          if (isField(size, place[0] + DX[d], place[1] + DY[d])) {
            map.set(place[0] + DX[d], place[1] + DY[d], 9);
          }
        }
        int due = atEdge(size, place[0], place[1]) ? 8 : 9;
        Due.is("13: none from " + place[0] + ", " + place[1], map.water(place[0], place[1], 0), due);
      }
    }
  }

  /** "OUT (told as 8), if it is at the EDGE, otherwise nowhere: it is a PIT (9)": each FIELD of plains. */
  private static void outOrPit() {
    for (int[] size : SIZES) {
      WatershedMap map = Maps.flat(size[0], size[1], 0);
      for (int number = 0; number < size[0] * size[1] && number < 200; number++) {
        int x = number % size[0];
        int y = number / size[0];
        Due.is("13: " + x + ", " + y + " of a plain", map.water(x, y, 0), atEdge(size, x, y) ? 8 : 9);
      }
    }
    Due.is("13: OUT below all others", Maps.of("9 9 9", "0 9 9", "9 9 9").water(0, 1, 0), 8);
    Due.is("13: not OUT with a lower NEIGHBOUR", Maps.of("9 9 9", "9 0 9", "9 9 9").water(2, 2, 0), 5);
  }

  /** So much lower that the FALL is 70. */
  private static int with70(int d) {
    return d % 2 == 1 ? 20 - 10 : 20 - 7;
  }

  /** "of several the one with the smallest number": each two DIRECTIONS, alike and one of them one lower. */
  private static void tiesOfTwo() {
    for (int a = 0; a < 8; a++) {
      for (int b = a + 1; b < 8; b++) {
        WatershedMap map = Maps.flat(3, 3, 20);
        map.set(1 + DX[a], 1 + DY[a], with70(a));
        map.set(1 + DX[b], 1 + DY[b], with70(b));
        Due.is("13: " + a + " and " + b + " alike", map.water(1, 1, 0), a);
        map.set(1 + DX[b], 1 + DY[b], with70(b) - 1);
        Due.is("13: " + b + " is lower than " + a, map.water(1, 1, 0), b);
      }
    }
    Due.is("13: all with a FALL of 70", Maps.of("10 13 10", "13 20 13", "10 13 10").water(1, 1, 0), 0);
    Due.is("13: all but the first", Maps.of("10 13 10", "13 20 14", "10 13 10").water(1, 1, 0), 1);
  }

  /** "the difference * 10 [..] otherwise * 7": of the same difference the SLANTED one is never taken. */
  private static void slantedFalls() {
    for (int straight = 0; straight < 8; straight += 2) {
      for (int slanted = 1; slanted < 8; slanted += 2) {
        WatershedMap map = Maps.flat(3, 3, 999);
        map.set(1 + DX[straight], 1 + DY[straight], 0);
        map.set(1 + DX[slanted], 1 + DY[slanted], 0);
        Due.is("13: " + straight + " ahead of " + slanted, map.water(1, 1, 0), straight);
        map.set(1 + DX[straight], 1 + DY[straight], 300);
        Due.is("13: 6990 straight, 6993 slanted", map.water(1, 1, 0), slanted);
        map.set(1 + DX[straight], 1 + DY[straight], 299);
        Due.is("13: 7000 straight, 6993 slanted", map.water(1, 1, 0), straight);
      }
    }
  }

  /** "A NEIGHBOUR that is lower": one lower is, one just as high is not. */
  private static void fallOfOne() {
    WatershedMap map = Maps.of("9 9 9", "9 9 9", "9 9 8");
    Due.is("13: one lower, slanted", map.water(1, 1, 0), 1);
    map.set(2, 2, 9);
    Due.is("13: just as high", map.water(1, 1, 0), 9);
    map.set(2, 2, 10);
    Due.is("13: one higher", map.water(1, 1, 0), 9);
    Due.is("13: the greatest FALL", Maps.of("999 0", "999 999").water(0, 0, 0), 0);
  }

  /** "The FLOW of a FIELD is 1 and the FLOW of each FIELD from which water goes to it": from 1 to all. */
  private static void leastAndGreatestFlow() {
    WatershedMap slope = Maps.slope(16, 16);
    Due.is("13: the FLOW of all", slope.water(0, 0, 1), 256);
    Due.is("13: the FLOW of a source", slope.water(15, 15, 1), 1);
    Due.is("13: the END of the farthest", slope.water(15, 15, 2), 0);
    Due.is("13: the FLOW of a plain's FIELD", Maps.flat(16, 16, 7).water(8, 8, 1), 1);
    Due.is("13: FLOW of the smallest MAP", Maps.of("1 1", "1 0").water(1, 1, 1), 4);
  }

  /** "if its FLOW is at least BROOK": just that, one more, one less. */
  private static void brookAndFlow() {
    WatershedMap map = Maps.of(SIDE);
    map.setBrook(4);
    Due.is("13: FLOW 4 with BROOK 4", map.water(0, 1, 3), 1);
    map.setBrook(5);
    Due.is("13: FLOW 4 with BROOK 5", map.water(0, 1, 3), 0);
    map.setBrook(3);
    Due.is("13: FLOW 4 with BROOK 3", map.water(0, 1, 3), 1);
    map.setBrook(2);
    Due.is("13: FLOW 1 with BROOK 2", map.water(1, 1, 3), 0);
    map.setBrook(1);
    Due.is("13: FLOW 1 with BROOK 1", map.water(1, 1, 3), 1);
  }

  /** "1, if no FIELD of a STREAM goes to it; otherwise the greatest RANK of those (of STREAMS) that do". */
  private static void ranks() {
    int[][] dues = {{1, 1, 2, 2}, {2, 1, 1, 1}, {3, 0, 1, 1}, {4, 0, 1, 1}, {5, 0, 0, 1}, {6, 0, 0, 1}, {7, 0, 0, 0}};
    for (int[] due : dues) {
      WatershedMap map = Maps.of(SIDE);
      map.setBrook(due[0]);
      Due.is("13: the first RANK with BROOK " + due[0], map.water(0, 2, 3), due[1]);
      Due.is("13: the second RANK with BROOK " + due[0], map.water(0, 1, 3), due[2]);
      Due.is("13: the last RANK with BROOK " + due[0], map.water(0, 0, 3), due[3]);
      Due.is("16: mostRank() with BROOK " + due[0], map.mostRank(), due[3]);
    }
  }

  /** "one more if two or more have that": with three just one more. */
  private static void threeOfOneRank() {
    WatershedMap three = Maps.of("0 9", "9 9");
    three.setBrook(1);
    Due.is("13: three of RANK 1", three.water(0, 0, 3), 2);
    WatershedMap eight = Maps.of("9 9 9", "9 0 9", "9 9 9");
    eight.setBrook(1);
    Due.is("13: eight of RANK 1", eight.water(1, 1, 3), 2);
    WatershedMap one = Maps.of("0 9", "0 9");
    one.setBrook(1);
    Due.is("13: one of RANK 1", one.water(0, 1, 3), 1);
  }

  /** "the greatest RANK of those": one of 2 among some of 1 gives 2, two of 2 give 3. */
  private static void twoOfTheGreatestRank() {
    WatershedMap map = Maps.of("90 90 90 90 90", "90 50 20 50 90", "90 90 10 90 90");
    map.setBrook(1);
    Due.is("13: left of two", map.water(1, 1, 3), 2);
    Due.is("13: right of two", map.water(3, 1, 3), 2);
    Due.is("13: behind two of 2", map.water(2, 1, 3), 3);
    Due.is("16: mostRank()", map.mostRank(), 3);
    map.set(3, 1, 90);
    Due.is("13: behind one of 2 and some of 1", map.water(2, 1, 3), 2);
    Due.is("16: mostRank() then", map.mostRank(), 2);
  }

  /** "0, if it is of no STREAM"; "0 without a STREAM". */
  private static void noStream() {
    for (int[] size : SIZES) {
      WatershedMap plain = Maps.flat(size[0], size[1], 3);
      Due.is("13: RANK on a plain", plain.water(1, 1, 3), 0);
      Due.is("16: mostRank() of a plain", plain.mostRank(), 0);
      Due.is("17: longestStream() of a plain", plain.longestStream(), 0);
      plain.setBrook(1);
      Due.is("13: RANK on a plain with BROOK 1", plain.water(1, 1, 3), 1);
      Due.is("16: mostRank() of a plain with BROOK 1", plain.mostRank(), 1);
      Due.is("17: longestStream() of a plain with BROOK 1", plain.longestStream(), 1);
    }
    WatershedMap smallest = Maps.of("0 9", "9 9");
    Due.is("16: mostRank() of FLOW 4 with BROOK 5", smallest.mostRank(), 0);
    smallest.setBrook(4);
    Due.is("16: mostRank() of FLOW 4 with BROOK 4", smallest.mostRank(), 1);
  }

  /** "BROOK (1 to 100": with FLOWS of 99 and 100. */
  private static void streamAtBrook100() {
    WatershedMap below = Maps.slope(11, 9);
    below.setBrook(100);
    Due.is("13: FLOW 99", below.water(0, 0, 1), 99);
    Due.is("16: mostRank() with FLOW 99", below.mostRank(), 0);
    Due.is("17: longestStream() with FLOW 99", below.longestStream(), 0);
    WatershedMap just = Maps.slope(10, 10);
    just.setBrook(100);
    Due.is("13: RANK with FLOW 100", just.water(0, 0, 3), 1);
    Due.is("16: mostRank() with FLOW 100", just.mostRank(), 1);
    Due.is("17: longestStream() with FLOW 100", just.longestStream(), 1);
    just.setBrook(99);
    Due.is("17: longestStream() with BROOK 99", just.longestStream(), 1);
  }

  /** "the END counted, itself not (0 of an END)": 0, 1 and the most of a slope. */
  private static void distances() {
    WatershedMap map = Maps.of(SIDE);
    Due.is("13: of an END", map.water(0, 0, 4), 0);
    Due.is("13: beside it", map.water(1, 0, 4), 1);
    Due.is("13: from the source", map.water(1, 2, 4), 3);
    WatershedMap slope = Maps.slope(16, 16);
    Due.is("13: from corner to corner", slope.water(15, 15, 4), 15);
    Due.is("13: along the EDGE", slope.water(0, 15, 4), 15);
    Due.is("13: first slanted, then straight", slope.water(15, 7, 4), 15);
    Due.is("13: of a PIT", Maps.flat(3, 3, 3).water(1, 1, 4), 0);
  }

  /** "the BASIN of an END are all FIELDS with this END": one, all, those that are OUT and PITS. */
  private static void basins() {
    Due.is("14: of the smallest plain", Maps.flat(2, 2, 0).basins(), 4);
    Due.is("14: of the largest plain", Maps.flat(16, 16, 0).basins(), 256);
    Due.is("14: of a slope", Maps.slope(16, 16).basins(), 1);
    Due.is("14: of the smallest slope", Maps.of("9 9", "9 0").basins(), 1);
    Due.is("14: of a PIT alone", Maps.of("9 9 9", "9 0 9", "9 9 9").basins(), 1);
    Due.is("14: of two sides", Maps.of("0 9 9 0", "0 9 9 0").basins(), 4);
  }

  /** "a PIT": none without an inside or on a slope, all inside a plain, one as low as OUT ones. */
  private static void pits() {
    Due.is("15: of the smallest plain", Maps.flat(2, 2, 0).pits(), 0);
    Due.is("15: without inside", Maps.flat(16, 2, 0).pits(), 0);
    Due.is("15: without inside, along y", Maps.flat(2, 16, 0).pits(), 0);
    Due.is("15: of a slope", Maps.slope(16, 16).pits(), 0);
    Due.is("15: of the largest plain", Maps.flat(16, 16, 0).pits(), 196);
    Due.is("15: of the smallest inside", Maps.flat(3, 3, 0).pits(), 1);
    Due.is("15: one lower NEIGHBOUR at the EDGE", Maps.of("1 1 1", "1 1 1", "1 1 0").pits(), 0);
    Due.is("15: of two, a slant apart", Maps.of("9 9 9 9", "9 1 9 9", "9 9 1 9", "9 9 9 9").pits(), 2);
    Due.is("15: of two, one lower", Maps.of("9 9 9 9", "9 1 9 9", "9 9 0 9", "9 9 9 9").pits(), 1);
  }

  /** "over which water goes in STREAMS alone, one behind the other, all counted". */
  private static void longestStream() {
    int[] dues = {4, 3, 2, 2, 1, 1, 0};
    for (int brook = 1; brook <= 7; brook++) {
      WatershedMap map = Maps.of(SIDE);
      map.setBrook(brook);
      Due.is("17: longestStream() with BROOK " + brook, map.longestStream(), dues[brook - 1]);
    }
    WatershedMap slope = Maps.slope(16, 16);
    slope.setBrook(1);
    Due.is("17: longestStream() from corner to corner", slope.longestStream(), 16);
    WatershedMap two = Maps.of("0 9 9 9 0", "9 9 9 9 9");
    two.setBrook(1);
    Due.is("17: longestStream() of two of which one is longer", two.longestStream(), 2);
  }
}
