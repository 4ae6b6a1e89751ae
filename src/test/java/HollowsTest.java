/** Promises 18 to 22: LEVELS, LAKES and LINES. */
final class HollowsTest {
  private static final String[] BOWL = {"9 9 9 9 9", "9 1 1 1 9", "9 1 5 1 7", "9 1 1 1 9", "9 9 9 9 3"};
  private static final String[] SLANTED = {"9 9 9 9", "9 1 9 9", "9 9 2 9", "9 9 9 9"};

  public static void main(String[] args) {
    level();
    levelBehindWalls();
    lakes();
    lake();
    volume();
    ring();
    saddle("10 0 0", "0 10 0", "0 0 0");
    saddle("0 0 10", "0 10 0", "0 0 0");
    saddle("0 0 0", "0 10 0", "10 0 0");
    saddle("0 0 0", "0 10 0", "0 0 10");
    lines();
    wrongContours();
    Due.end();
  }

  private static void level() {
    WatershedMap map = Maps.of(BOWL);
    Due.is("18: level(1, 1)", map.level(1, 1), 7);
    Due.is("18: level(2, 2) of the island", map.level(2, 2), 7);
    Due.is("18: level(3, 3) has no slanted way out", map.level(3, 3), 7);
    Due.is("18: level(4, 2) of the outlet", map.level(4, 2), 7);
    Due.is("18: level(4, 4) of the corner", map.level(4, 4), 3);
    Due.is("18: level(0, 0)", map.level(0, 0), 9);
    map.set(2, 2, 20);
    Due.is("18: level(2, 2) of a peak", map.level(2, 2), 20);
    for (int wrong : new int[] {-1, 5, Integer.MIN_VALUE, Integer.MAX_VALUE}) {
      Due.noField(map, "18: level(" + wrong + ", 0)", () -> map.level(wrong, 0));
      Due.noField(map, "18: level(0, " + wrong + ")", () -> map.level(0, wrong));
    }
  }

  private static void levelBehindWalls() {
    WatershedMap map = Maps.of("99 99 99 99 99 99", "99 1 60 2 50 40", "99 99 99 99 99 99");
    Due.is("18: level(1, 1) behind two walls", map.level(1, 1), 60);
    Due.is("18: level(3, 1) behind one", map.level(3, 1), 50);
    Due.is("18: level(4, 1) of the wall", map.level(4, 1), 50);
    Due.is("18: level(5, 1) at the EDGE", map.level(5, 1), 40);
    map.set(4, 1, 10);
    Due.is("18: level(3, 1) behind the EDGE", map.level(3, 1), 40);
    Due.is("18: level(4, 1) behind the EDGE", map.level(4, 1), 40);
  }

  private static void lakes() {
    Due.is("19: lakes() of a plain", Maps.flat(5, 5, 3).lakes(), 0);
    Due.is("19: lakes() of a bowl", Maps.of(BOWL).lakes(), 1);
    Due.is("19: lakes() that touch at a slant", Maps.of(SLANTED).lakes(), 2);
    Due.is("19: lakes() that touch at a side", Maps.of("9 9 9 9", "9 1 3 9", "9 9 2 9", "9 9 9 9").lakes(), 1);
    Due.is("19: lakes() of a ring", Maps.of("9 9 9 9 9", "9 1 1 1 9", "9 1 9 1 9", "9 1 1 1 9", "9 9 9 9 9").lakes(), 1);
    Due.is("19: lakes() of depth 1", Maps.of("9 9 9", "9 8 9", "9 9 9").lakes(), 1);
    Due.is("19: lakes() behind FIELD 1", Maps.of("0 5 9", "9 1 9", "9 9 9").lakes(), 1);
    Due.is("19: lakes() without inside", Maps.of("9 1 9", "9 1 9").lakes(), 0);
  }

  private static void lake() {
    WatershedMap map = Maps.of(BOWL);
    Due.is("20: how many FIELDS", map.lake(1, 3, 0), 9);
    Due.is("20: how much it holds", map.lake(1, 3, 1), 50);
    Due.is("20: the island's", map.lake(2, 2, 1), 50);
    Due.is("20: FIELDS of none", map.lake(4, 2, 0), 0);
    Due.is("20: holds of none", map.lake(4, 2, 1), 0);
    WatershedMap two = Maps.of(SLANTED);
    Due.is("20: the first one", two.lake(1, 1, 1), 8);
    Due.is("20: the other one", two.lake(2, 2, 1), 7);
    Due.is("20: FIELDS of the other one", two.lake(2, 2, 0), 1);
    for (int wrong : new int[] {-1, 2, Integer.MIN_VALUE, Integer.MAX_VALUE}) {
      Due.illegal(map, "20: lake(1, 1, " + wrong + ")", () -> map.lake(1, 1, wrong));
    }
    for (int wrong : new int[] {-1, 5, Integer.MIN_VALUE, Integer.MAX_VALUE}) {
      Due.noField(map, "20: lake(" + wrong + ", 0, 0)", () -> map.lake(wrong, 0, 0));
      Due.noField(map, "20: lake(0, " + wrong + ", 2)", () -> map.lake(0, wrong, 2));
    }
  }

  private static void volume() {
    Due.is("21: volume() of a plain", Maps.flat(5, 5, 3).volume(), 0);
    Due.is("21: volume() of a bowl", Maps.of(BOWL).volume(), 50);
    Due.is("21: volume() of two LAKES", Maps.of(SLANTED).volume(), 15);
    Due.is("21: volume() at most", Maps.of("999 999 999", "999 0 999", "999 999 999").volume(), 999);
  }

  private static void contourIs(String what, WatershedMap map, int c, int pieces, int lines, int closed) {
    Due.is("22: pieces of " + what + " at " + c, map.contour(c, 0), pieces);
    Due.is("22: LINES of " + what + " at " + c, map.contour(c, 1), lines);
    Due.is("22: CLOSED of " + what + " at " + c, map.contour(c, 2), closed);
  }

  private static void ring() {
    WatershedMap map = Maps.of("0 0 0", "0 10 0", "0 0 0");
    contourIs("a peak", map, 5, 4, 1, 1);
    contourIs("a peak", map, 9, 4, 1, 1);
    contourIs("a peak", map, 10, 0, 0, 0);
    contourIs("a peak", map, 0, 4, 1, 1);
    contourIs("a hole", Maps.of("10 10 10", "10 0 10", "10 10 10"), 0, 4, 1, 1);
    contourIs("a plain", Maps.flat(3, 3, 10), 5, 0, 0, 0);
    contourIs("a top", Maps.flat(16, 16, 999), 999, 0, 0, 0);
  }

  /** With sum 20: above 4 * 4 the two peaks are joined, not above 4 * 5 they are apart. */
  private static void saddle(String... rows) {
    WatershedMap map = Maps.of(rows);
    contourIs("a saddle", map, 4, 5, 1, 0);
    contourIs("a saddle", map, 5, 5, 2, 1);
  }

  private static void lines() {
    contourIs("the first corner", Maps.of("10 0", "0 0"), 3, 1, 1, 0);
    contourIs("the second corner", Maps.of("0 10", "0 0"), 3, 1, 1, 0);
    contourIs("the third corner", Maps.of("0 0", "10 0"), 3, 1, 1, 0);
    contourIs("the fourth corner", Maps.of("0 0", "0 10"), 3, 1, 1, 0);
    contourIs("a side", Maps.of("10 0", "10 0"), 3, 1, 1, 0);
    contourIs("a step", Maps.of("10 10 10 10", "0 0 0 0"), 3, 3, 1, 0);
    contourIs("a wall", Maps.of("0 10 0", "0 10 0", "0 10 0"), 3, 4, 2, 0);
    contourIs("two corners", Maps.of("10 0", "0 10"), 4, 2, 2, 0);
    contourIs("a moat", Maps.of("0 0 0 0 0", "0 9 9 9 0", "0 9 0 9 0", "0 9 9 9 0", "0 0 0 0 0"), 4, 16, 2, 2);
    WatershedMap board = Maps.chessBoard(10);
    // all squares are saddles: at 4 each low FIELD is alone, at 5 each high one; 98 of 128 are not at the EDGE
    contourIs("a chess board", board, 4, 450, 128, 98);
    contourIs("a chess board", board, 5, 450, 128, 98);
  }

  private static void wrongContours() {
    WatershedMap map = Maps.of(BOWL);
    for (int wrong : new int[] {-1, 1000, Integer.MIN_VALUE, Integer.MAX_VALUE}) {
      Due.illegal(map, "22: contour(" + wrong + ", 0)", () -> map.contour(wrong, 0));
    }
    for (int wrong : new int[] {-1, 3, Integer.MIN_VALUE, Integer.MAX_VALUE}) {
      Due.illegal(map, "22: contour(5, " + wrong + ")", () -> map.contour(5, wrong));
    }
  }
}
