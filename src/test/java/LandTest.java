/** Promises 1 to 12: the FIELDS and what changes them. */
final class LandTest {
  private static final int LEAST = Integer.MIN_VALUE;
  private static final int MOST = Integer.MAX_VALUE;

  public static void main(String[] args) {
    newObject();
    reset();
    set();
    tilt();
    hill();
    hillIsCut();
    hillAtTheLimits();
    dig();
    digBackwards();
    smooth();
    wear();
    wearIsCut();
    fill();
    setBrook();
    map();
    height();
    Due.end();
  }

  private static void newObject() {
    WatershedMap map = new WatershedMap();
    Due.is("1: W", map.map(0), 12);
    Due.is("1: H", map.map(1), 12);
    Due.is("1: the greatest HEIGHT", map.map(3), 0);
    Due.is("1: the last FIELD", map.height(11, 11), 0);
    Due.is("1: BROOK", map.setBrook(1), 5);
    Due.noField(map, "1: height(12, 0)", () -> map.height(12, 0));
    Due.noField(map, "1: height(0, 12)", () -> map.height(0, 12));
  }

  private static void reset() {
    WatershedMap map = Maps.of("1 2", "3 4");
    map.setBrook(9);
    Due.is("2: reset(2, 16)", map.reset(2, 16), 32);
    Due.is("2: the sum", map.map(4), 0);
    Due.is("2: W", map.map(0), 2);
    Due.is("2: H", map.map(1), 16);
    Due.is("2: BROOK stays", Maps.brook(map), 9);
    Due.noField(map, "2: height(2, 0)", () -> map.height(2, 0));
    Due.is("2: reset(16, 2)", map.reset(16, 2), 32);
    map.set(15, 1, 7);
    Due.is("2: reset(16, 16)", map.reset(16, 16), 256);
    Due.is("2: a HEIGHT of a new MAP", map.map(3), 0);
    map.set(15, 15, 7);
    for (int wrong : new int[] {1, 17, 0, -2, LEAST, MOST}) {
      Due.illegal(map, "2: reset(" + wrong + ", 2)", () -> map.reset(wrong, 2));
      Due.illegal(map, "2: reset(2, " + wrong + ")", () -> map.reset(2, wrong));
    }
  }

  private static void set() {
    WatershedMap map = Maps.of("1 2 3", "4 5 6");
    Due.is("3: set(2, 1, 999)", map.set(2, 1, 999), 6);
    Due.is("3: set(2, 1, 0)", map.set(2, 1, 0), 999);
    Due.is("3: set(0, 1, 8)", map.set(0, 1, 8), 4);
    Due.is("3: the HEIGHTS", Maps.rows(map), "1 2 3 / 8 5 0");
    for (int wrong : new int[] {-1, 1000, LEAST, MOST}) {
      Due.illegal(map, "3: set(0, 0, " + wrong + ")", () -> map.set(0, 0, wrong));
    }
    for (int wrong : new int[] {-1, 3, LEAST, MOST}) {
      Due.noField(map, "3: set(" + wrong + ", 0, 1)", () -> map.set(wrong, 0, 1));
      Due.noField(map, "3: set(0, " + wrong + ", 1)", () -> map.set(0, wrong, 1));
    }
    Due.noField(map, "3: set(0, 2, -1)", () -> map.set(0, 2, -1));
  }

  private static void tilt() {
    WatershedMap map = new WatershedMap();
    map.reset(3, 2);
    Due.is("4: tilt(10, 20, 1)", map.tilt(10, 20, 1), 43);
    Due.is("4: the HEIGHTS", Maps.rows(map), "0 17 34 / 33 38 43");
    Due.is("4: tilt(-100, 0, 0)", map.tilt(-100, 0, 0), 33);
    Due.is("4: not below 0", Maps.rows(map), "0 0 0 / 33 0 0");
    Due.is("4: tilt(0, 0, 100)", map.tilt(0, 0, 100), 999);
    Due.is("4: not above 999", Maps.rows(map), "0 700 999 / 999 800 300");
    Due.is("4: tilt(0, -100, -100)", map.tilt(0, -100, -100), 0);
    Due.is("4: tilt(100, 100, 0)", map.tilt(100, 100, 0), 300);
    for (int wrong : new int[] {-101, 101, LEAST, MOST}) {
      Due.illegal(map, "4: tilt(" + wrong + ", 0, 0)", () -> map.tilt(wrong, 0, 0));
      Due.illegal(map, "4: tilt(0, " + wrong + ", 0)", () -> map.tilt(0, wrong, 0));
      Due.illegal(map, "4: tilt(0, 0, " + wrong + ")", () -> map.tilt(0, 0, wrong));
    }
  }

  private static void hill() {
    WatershedMap map = Maps.flat(5, 5, 0);
    Due.is("5: hill(2, 2, 2, 100)", map.hill(2, 2, 2, 100), 13);
    Due.is("5: the HEIGHTS", Maps.rows(map),
        "0 0 20 0 0 / 0 60 80 60 0 / 20 80 100 80 20 / 0 60 80 60 0 / 0 0 20 0 0");
    Due.is("5: hill(2, 2, 2, -100)", map.hill(2, 2, 2, -100), 13);
    Due.is("5: the sum is 0 again", map.map(4), 0);
    Due.is("5: hill(4, 0, 1, 2) over the EDGE", map.hill(4, 0, 1, 2), 3);
    Due.is("5: hill(4, 0, 1, 0)", map.hill(4, 0, 1, 0), 0);
  }

  private static void hillIsCut() {
    WatershedMap map = Maps.flat(3, 3, 10);
    Due.is("5: hill(1, 1, 1, 7)", map.hill(1, 1, 1, 7), 5);
    Due.is("5: cut towards 0", Maps.rows(map), "10 14 10 / 14 17 14 / 10 14 10");
    WatershedMap deep = Maps.flat(3, 3, 10);
    Due.is("5: hill(1, 1, 1, -7)", deep.hill(1, 1, 1, -7), 5);
    Due.is("5: cut towards 0, below 0 too", Maps.rows(deep), "10 6 10 / 6 3 6 / 10 6 10");
  }

  private static void hillAtTheLimits() {
    WatershedMap map = Maps.of("999 998 600", "0 0 0");
    Due.is("5: hill(0, 0, 0, 500) at 999", map.hill(0, 0, 0, 500), 0);
    Due.is("5: hill(1, 0, 1, 500)", map.hill(1, 0, 1, 500), 3);
    Due.is("5: not above 999", Maps.rows(map), "999 999 850 / 0 250 0");
    Due.is("5: hill(1, 1, 1, -500)", map.hill(1, 1, 1, -500), 2);
    Due.is("5: not below 0", Maps.rows(map), "999 749 850 / 0 0 0");
    Due.is("5: hill(0, 0, 8, 500)", map.hill(0, 0, 8, 500), 5);
    for (int wrong : new int[] {-1, 9, LEAST, MOST}) {
      Due.illegal(map, "5: hill(0, 0, " + wrong + ", 1)", () -> map.hill(0, 0, wrong, 1));
      Due.noField(map, "5: hill(" + wrong + ", 0, 1, 1)", () -> map.hill(wrong, 0, 1, 1));
      Due.noField(map, "5: hill(0, " + wrong + ", 9, 1)", () -> map.hill(0, wrong, 9, 1));
    }
    for (int wrong : new int[] {-501, 501, LEAST, MOST}) {
      Due.illegal(map, "5: hill(0, 0, 1, " + wrong + ")", () -> map.hill(0, 0, 1, wrong));
    }
  }

  private static void dig() {
    WatershedMap map = Maps.flat(5, 3, 50);
    map.set(2, 1, 3);
    Due.is("6: dig(0, 0, 4, 2, 10)", map.dig(0, 0, 4, 2, 10), 4);
    Due.is("6: the HEIGHTS", Maps.rows(map), "10 50 50 50 50 / 50 10 3 50 50 / 50 50 50 10 10");
    Due.is("6: dig(3, 0, 3, 0, 0)", map.dig(3, 0, 3, 0, 0), 1);
    Due.is("6: one FIELD", map.height(3, 0), 0);
    Due.is("6: dig(0, 1, 4, 1, 999)", map.dig(0, 1, 4, 1, 999), 0);
    Due.is("6: dig(4, 2, 4, 0, 20)", map.dig(4, 2, 4, 0, 20), 2);
    Due.is("6: dig(4, 2, 4, 0, 20) again", map.dig(4, 2, 4, 0, 20), 0);
    for (int wrong : new int[] {-1, 5, LEAST, MOST}) {
      Due.noField(map, "6: dig(" + wrong + ", 0, 0, 0, 1)", () -> map.dig(wrong, 0, 0, 0, 1));
      Due.noField(map, "6: dig(0, " + wrong + ", 0, 0, 1)", () -> map.dig(0, wrong, 0, 0, 1));
      Due.noField(map, "6: dig(0, 0, " + wrong + ", 0, 1)", () -> map.dig(0, 0, wrong, 0, 1));
      Due.noField(map, "6: dig(0, 0, 0, " + wrong + ", -1)", () -> map.dig(0, 0, 0, wrong, -1));
    }
    for (int wrong : new int[] {-1, 1000, LEAST, MOST}) {
      Due.illegal(map, "6: dig(0, 0, 4, 2, " + wrong + ")", () -> map.dig(0, 0, 4, 2, wrong));
    }
  }

  private static void digBackwards() {
    WatershedMap map = Maps.flat(5, 3, 50);
    Due.is("6: dig(4, 2, 0, 0, 10)", map.dig(4, 2, 0, 0, 10), 5);
    Due.is("6: cut downwards", Maps.rows(map), "10 50 50 50 50 / 50 10 10 50 50 / 50 50 50 10 10");
    WatershedMap upwards = Maps.flat(2, 4, 50);
    Due.is("6: dig(1, 3, 0, 0, 10)", upwards.dig(1, 3, 0, 0, 10), 4);
    Due.is("6: along y", Maps.rows(upwards), "10 50 / 10 50 / 50 10 / 50 10");
  }

  private static void smooth() {
    WatershedMap map = Maps.of("0 0 0", "0 80 0", "0 0 0");
    Due.is("7: smooth()", map.smooth(), 5);
    Due.is("7: the HEIGHTS", Maps.rows(map), "0 10 0 / 10 40 10 / 0 10 0");
    WatershedMap corner = Maps.of("80 0 0", "0 0 0", "0 0 15");
    Due.is("7: smooth() of corners", corner.smooth(), 6);
    Due.is("7: itself in place of each that there is not", Maps.rows(corner), "60 10 0 / 10 0 1 / 0 1 11");
    Due.is("7: smooth() of a plain", Maps.flat(4, 3, 999).smooth(), 0);
    WatershedMap small = Maps.of("0 7", "0 0");
    Due.is("7: smooth() cuts", small.smooth(), 1);
    Due.is("7: the small HEIGHTS", Maps.rows(small), "0 5 / 0 0");
  }

  private static void wear() {
    WatershedMap map = Maps.of("90 60 30 0", "90 60 30 0");
    Due.is("8: wear(50)", map.wear(50), 60);
    Due.is("8: by FLOW", Maps.rows(map), "85 50 15 0 / 85 50 15 0");
    Due.is("8: wear(50) again", map.wear(50), 44);
    Due.is("8: at most half of the difference", Maps.rows(map), "80 40 8 0 / 80 40 8 0");
    for (int wrong : new int[] {0, 51, -1, LEAST, MOST}) {
      Due.illegal(map, "8: wear(" + wrong + ")", () -> map.wear(wrong));
    }
  }

  private static void wearIsCut() {
    WatershedMap map = Maps.of("90 60 30 0", "90 60 30 0");
    Due.is("8: wear(3)", map.wear(3), 0);
    Due.is("8: wear(4)", map.wear(4), 2);
    Due.is("8: FLOW 3 alone", Maps.rows(map), "90 60 29 0 / 90 60 29 0");
    Due.is("8: wear(50) where no water goes on", Maps.flat(4, 4, 500).wear(50), 0);
    WatershedMap slope = new WatershedMap();
    slope.reset(16, 2);
    slope.tilt(10, 0, 0);
    Due.is("8: wear(1) on a long slope to FIELD 0", slope.wear(1), 2 * 6);
    Due.is("8: from FLOW 10 on", slope.height(6, 0) * 1000 + slope.height(7, 0), 59 * 1000 + 70);
    Due.is("8: the FIELD ahead of FIELD 0", slope.height(1, 0), 9);
    WatershedMap low = Maps.of("1 0", "1 0");
    Due.is("8: wear(50) of a step of 1", low.wear(50), 0);
  }

  private static void fill() {
    WatershedMap map = Maps.of("9 9 9 9 9", "9 1 1 1 9", "9 1 5 1 7", "9 1 1 1 9", "9 9 9 9 3");
    Due.is("9: fill()", map.fill(), 50);
    Due.is("9: the HEIGHTS", Maps.rows(map), "9 9 9 9 9 / 9 7 7 7 9 / 9 7 7 7 7 / 9 7 7 7 9 / 9 9 9 9 3");
    Due.is("9: fill() again", map.fill(), 0);
    Due.is("9: fill() of 1", Maps.of("9 9 9", "9 8 9", "9 9 9").fill(), 1);
  }

  private static void setBrook() {
    WatershedMap map = Maps.of("90 60 30 0", "90 60 30 0");
    Due.is("10: setBrook(4)", map.setBrook(4), 5);
    Due.is("10: FLOW 4 is a STREAM", map.water(3, 0, 3), 1);
    Due.is("10: setBrook(100)", map.setBrook(100), 4);
    Due.is("10: FLOW 4 is none", map.water(3, 0, 3), 0);
    Due.is("10: setBrook(1)", map.setBrook(1), 100);
    Due.is("10: FLOW 1 is a STREAM", map.water(0, 0, 3), 1);
    for (int wrong : new int[] {0, 101, -1, LEAST, MOST}) {
      Due.illegal(map, "10: setBrook(" + wrong + ")", () -> map.setBrook(wrong));
    }
  }

  private static void map() {
    WatershedMap map = Maps.of("5 9 7", "6 8 999");
    Due.is("11: map(0)", map.map(0), 3);
    Due.is("11: map(1)", map.map(1), 2);
    Due.is("11: map(2)", map.map(2), 5);
    Due.is("11: map(3)", map.map(3), 999);
    Due.is("11: map(4)", map.map(4), 1034);
    Due.is("11: map(2) of FIELD 0", Maps.of("1 2", "3 4").map(2), 1);
    Due.is("11: map(3) of FIELD 0", Maps.of("4 2", "3 1").map(3), 4);
    Due.is("11: map(2) of a high plain", Maps.flat(2, 2, 999).map(2), 999);
    for (int wrong : new int[] {-1, 5, LEAST, MOST}) {
      Due.illegal(map, "11: map(" + wrong + ")", () -> map.map(wrong));
    }
  }

  private static void height() {
    WatershedMap map = Maps.of("5 9 7", "6 8 999");
    Due.is("12: height(0, 0)", map.height(0, 0), 5);
    Due.is("12: height(2, 0)", map.height(2, 0), 7);
    Due.is("12: height(0, 1)", map.height(0, 1), 6);
    Due.is("12: height(2, 1)", map.height(2, 1), 999);
    for (int wrong : new int[] {-1, 3, LEAST, MOST}) {
      Due.noField(map, "12: height(" + wrong + ", 0)", () -> map.height(wrong, 0));
      Due.noField(map, "12: height(0, " + wrong + ")", () -> map.height(0, wrong));
    }
    Due.noField(map, "12: height(0, 2)", () -> map.height(0, 2));
  }
}
