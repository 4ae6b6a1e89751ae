/** Promises 23 to 27: what is seen, what a WAY takes, how steep the land is. */
final class SightAndWaysTest {
  private static final int LEAST = Integer.MIN_VALUE;
  private static final int MOST = Integer.MAX_VALUE;

  public static void main(String[] args) {
    sees();
    seesBetweenRows();
    eyeAbove999();
    wrongSees();
    seen();
    takes();
    way();
    wrongWays();
    steepness();
    Due.end();
  }

  private static void sees() {
    WatershedMap map = Maps.of("0 0 5 0 10", "0 0 0 0 0");
    Due.is("23: over one just as high", map.sees(0, 0, 0, 4, 0), true);
    map.set(2, 0, 6);
    Due.is("23: over a higher one", map.sees(0, 0, 0, 4, 0), false);
    Due.is("23: back", map.sees(4, 0, 0, 0, 0), false);
    Due.is("23: with an eye 1 up", map.sees(0, 0, 1, 4, 0), false);
    Due.is("23: with an eye 2 up", map.sees(0, 0, 2, 4, 0), true);
    Due.is("23: the one that hides", map.sees(0, 0, 0, 2, 0), true);
    Due.is("23: the one behind it", map.sees(0, 0, 0, 3, 0), false);
    Due.is("23: the own FIELD", map.sees(2, 0, 0, 2, 0), true);
    WatershedMap steep = Maps.of("0 999", "0 0");
    Due.is("23: a NEIGHBOUR above", steep.sees(0, 1, 0, 1, 0), true);
    Due.is("23: a NEIGHBOUR below", steep.sees(1, 0, 0, 0, 0), true);
    WatershedMap near = Maps.of("0 9 0 0 0", "0 0 0 0 0");
    Due.is("23: near the eye, 11 up", near.sees(0, 0, 11, 4, 0), false);
    Due.is("23: near the eye, 12 up", near.sees(0, 0, 12, 4, 0), true);
  }

  private static void seesBetweenRows() {
    WatershedMap map = Maps.flat(5, 3, 0);
    map.set(2, 1, 50);
    Due.is("23: hidden by (2, 1)", map.sees(0, 0, 0, 4, 2), false);
    Due.is("23: hidden by (2, 1), backwards", map.sees(4, 2, 0, 0, 0), false);
    WatershedMap half = Maps.of("0 0 0", "0 50 0");
    Due.is("23: half a step is cut downwards to (1, 1)", half.sees(0, 0, 0, 2, 1), false);
    Due.is("23: half a step back is cut downwards to (1, 1)", half.sees(2, 1, 0, 0, 0), false);
    WatershedMap upper = Maps.of("0 50 0", "0 0 0");
    Due.is("23: not by way of (1, 0)", upper.sees(0, 0, 0, 2, 1), true);
    Due.is("23: not back by way of (1, 0)", upper.sees(2, 1, 0, 0, 0), true);
    WatershedMap wall = Maps.of("0 0 0", "50 50 0", "0 0 0");
    Due.is("23: along y", wall.sees(0, 0, 0, 1, 2), false);
  }

  private static void eyeAbove999() {
    WatershedMap map = Maps.of("999 999 600", "0 0 0");
    Due.is("23: from 1499", map.sees(0, 0, 500, 2, 0), true);
    map.set(2, 0, 498);
    Due.is("23: from 1499, too low", map.sees(0, 0, 500, 2, 0), false);
    map.set(2, 0, 499);
    Due.is("23: from 1499, just as high", map.sees(0, 0, 500, 2, 0), true);
  }

  private static void wrongSees() {
    WatershedMap map = Maps.of("1 2 3", "4 5 6");
    for (int wrong : new int[] {-1, 3, LEAST, MOST}) {
      Due.noField(map, "23: sees(" + wrong + ", 0, 0, 0, 0)", () -> map.sees(wrong, 0, 0, 0, 0));
      Due.noField(map, "23: sees(0, " + wrong + ", 0, 0, 0)", () -> map.sees(0, wrong, 0, 0, 0));
      Due.noField(map, "23: sees(0, 0, 0, " + wrong + ", 0)", () -> map.sees(0, 0, 0, wrong, 0));
      Due.noField(map, "23: sees(0, 0, -1, 0, " + wrong + ")", () -> map.sees(0, 0, -1, 0, wrong));
      Due.noField(map, "24: seen(" + wrong + ", 0, 0)", () -> map.seen(wrong, 0, 0));
      Due.noField(map, "24: seen(0, " + wrong + ", 501)", () -> map.seen(0, wrong, 501));
    }
    for (int wrong : new int[] {-1, 501, LEAST, MOST}) {
      Due.illegal(map, "23: sees(0, 0, " + wrong + ", 1, 1)", () -> map.sees(0, 0, wrong, 1, 1));
      Due.illegal(map, "23: sees(0, 0, " + wrong + ", 0, 0)", () -> map.sees(0, 0, wrong, 0, 0));
      Due.illegal(map, "24: seen(0, 0, " + wrong + ")", () -> map.seen(0, 0, wrong));
    }
  }

  private static void seen() {
    Due.is("24: seen() of a plain", Maps.flat(4, 3, 9).seen(3, 2, 0), 12);
    WatershedMap map = Maps.of("0 0 100 0 0", "0 0 100 0 0");
    Due.is("24: seen(0, 0, 0) before a wall", map.seen(0, 0, 0), 6);
    Due.is("24: seen(0, 0, 500) over a wall", map.seen(0, 0, 500), 10);
    Due.is("24: seen(2, 0, 0) from the wall", map.seen(2, 0, 0), 10);
    Due.is("24: seen(4, 1, 0) behind the wall", map.seen(4, 1, 0), 6);
  }

  private static void takes() {
    WatershedMap plain = Maps.flat(3, 3, 5);
    Due.is("25: to itself", plain.takes(1, 2, 1, 2), 0);
    Due.is("25: straight", plain.takes(0, 0, 2, 0), 20);
    Due.is("25: slanted", plain.takes(0, 0, 2, 2), 28);
    Due.is("25: both", plain.takes(2, 1, 0, 0), 24);
    WatershedMap map = Maps.of("0 100 0", "0 0 0");
    Due.is("25: up", map.takes(0, 0, 1, 0), 110);
    Due.is("25: down", map.takes(1, 0, 0, 0), 110);
    Due.is("25: up, slanted", map.takes(0, 1, 1, 0), 114);
    Due.is("25: round a peak", map.takes(0, 0, 2, 0), 28);
    WatershedMap wall = Maps.of("0 999 0", "0 999 0", "0 0 0");
    Due.is("25: round a wall", wall.takes(0, 0, 2, 0), 48);
    Due.is("25: at most", Maps.of("0 999", "999 999").takes(0, 0, 1, 1), 1013);
  }

  private static void wayIs(String what, WatershedMap map, int[] ends, int... numbers) {
    for (int back = 0; back < numbers.length; back++) {
      Due.is("26: " + what + ", " + back + " back", map.way(ends[0], ends[1], ends[2], ends[3], back), numbers[back]);
    }
  }

  private static void way() {
    WatershedMap plain = Maps.flat(3, 3, 5);
    wayIs("of two the one over 1", plain, new int[] {0, 0, 2, 1}, 5, 1, 0, -1, -1);
    wayIs("back over 1 too", plain, new int[] {2, 1, 0, 0}, 0, 1, 5, -1);
    wayIs("slanted", plain, new int[] {0, 2, 2, 0}, 2, 4, 6, -1);
    wayIs("to itself", plain, new int[] {1, 1, 1, 1}, 4, -1, -1);
    wayIs("to FIELD 0", plain, new int[] {2, 2, 0, 0}, 0, 4, 8, -1);
    Due.is("26: far back", plain.way(0, 0, 2, 2, MOST), -1);
    Due.is("26: as far back as there are FIELDS", plain.way(0, 0, 2, 2, 9), -1);
    wayIs("round a wall", Maps.of("0 999 0", "0 999 0", "0 0 0"), new int[] {0, 0, 2, 0}, 2, 5, 7, 3, 0, -1);
    wayIs("over the sill", Maps.of("0 50 0", "0 40 0"), new int[] {0, 0, 2, 0}, 2, 4, 0, -1);
    WatershedMap row = Maps.flat(16, 2, 0);
    Due.is("26: 15 back", row.way(0, 1, 15, 1, 15), 16);
    Due.is("26: 16 back", row.way(0, 1, 15, 1, 16), -1);
  }

  private static void wrongWays() {
    WatershedMap map = Maps.of("1 2 3", "4 5 6");
    for (int wrong : new int[] {-1, 3, LEAST, MOST}) {
      Due.noField(map, "25: takes(" + wrong + ", 0, 0, 0)", () -> map.takes(wrong, 0, 0, 0));
      Due.noField(map, "25: takes(0, " + wrong + ", 0, 0)", () -> map.takes(0, wrong, 0, 0));
      Due.noField(map, "25: takes(0, 0, " + wrong + ", 0)", () -> map.takes(0, 0, wrong, 0));
      Due.noField(map, "25: takes(0, 0, 0, " + wrong + ")", () -> map.takes(0, 0, 0, wrong));
      Due.noField(map, "26: way(" + wrong + ", 0, 0, 0, 0)", () -> map.way(wrong, 0, 0, 0, 0));
      Due.noField(map, "26: way(0, " + wrong + ", 0, 0, 0)", () -> map.way(0, wrong, 0, 0, 0));
      Due.noField(map, "26: way(0, 0, " + wrong + ", 0, 0)", () -> map.way(0, 0, wrong, 0, 0));
      Due.noField(map, "26: way(0, 0, 0, " + wrong + ", -1)", () -> map.way(0, 0, 0, wrong, -1));
    }
    Due.illegal(map, "26: way(0, 0, 1, 1, -1)", () -> map.way(0, 0, 1, 1, -1));
    Due.illegal(map, "26: way(0, 0, 1, 1, least)", () -> map.way(0, 0, 1, 1, LEAST));
  }

  private static void steepness() {
    Due.is("27: steepness() of a plain", Maps.flat(5, 4, 999).steepness(), 0.0);
    Due.is("27: steepness() at FIELD 0", Maps.of("3 0", "0 0").steepness(), 3.0);
    Due.is("27: steepness() of a corner", Maps.of("0 0", "0 3").steepness(), 3.0);
    Due.is("27: steepness() is not cut", Maps.of("0 0 0", "0 0 1").steepness(), 4.0 / 6);
    Due.is("27: steepness() up and down", Maps.of("5 5 5", "5 5 5", "5 5 9").steepness(), 16.0 / 9);
    Due.is("27: steepness() of the greatest", Maps.of("0 100 30", "0 100 90").steepness(), (100 * 4 + 70 + 60) / 6.0);
  }
}
