/** Terms 3 and 4 and promises 18 to 22: a test for each sentence that names a boundary, told ahead of it. */
final class HollowsEdgesTest {
  public static void main(String[] args) {
    levelAtTheEdge();
    levelOfThePeak();
    levelIsTheLeast();
    levelNotSlanted();
    levelOfTheLargest();
    levelAboveHeight();
    noLake();
    lakesThatTouch();
    lakeAsAWhole();
    mostLakes();
    largestLake();
    aboveC();
    leastAndGreatestC();
    smallestSquare();
    squaresWithTwoPoints();
    sumOfASquare();
    noLine();
    closedOrNot();
    largestLine();
    linesInOneSquare();
    Due.end();
  }

  /** "of one at the EDGE it is its HEIGHT": in corners and between, whatever is beside it. */
  private static void levelAtTheEdge() {
    WatershedMap map = Maps.of("0 999 5", "999 0 999", "7 1 999");
    for (int number = 0; number < 9; number++) {
      int x = number % 3;
      int y = number / 3;
      Due.is("18: level of " + x + ", " + y, map.level(x, y), number == 4 ? 1 : map.height(x, y));
    }
    WatershedMap smallest = Maps.of("0 999", "999 0");
    Due.is("18: level(0, 0) of the smallest MAP", smallest.level(0, 0), 0);
    Due.is("18: level(1, 0) of the smallest MAP", smallest.level(1, 0), 999);
    Due.is("18: level(1, 1) of the smallest MAP", smallest.level(1, 1), 0);
    Due.is("18: level without inside", Maps.of("9 9 9 9", "9 0 0 9").level(1, 1), 0);
  }

  /** "no HEIGHT is above l (its own, too": a peak's LEVEL is its HEIGHT. */
  private static void levelOfThePeak() {
    Due.is("18: of a peak of 999", Maps.of("0 0 0", "0 999 0", "0 0 0").level(1, 1), 999);
    Due.is("18: of a peak of 1", Maps.of("0 0 0", "0 1 0", "0 0 0").level(1, 1), 1);
    Due.is("18: of a plain of 0", Maps.flat(3, 3, 0).level(1, 1), 0);
  }

  /** "the least number l for which there is a way": over the lowest of four sills. */
  private static void levelIsTheLeast() {
    for (int lowest = 0; lowest < 4; lowest++) {
      WatershedMap map = Maps.flat(3, 3, 999);
      map.set(1, 1, 3);
      map.set(lowest == 0 ? 2 : lowest == 2 ? 0 : 1, lowest == 1 ? 2 : lowest == 3 ? 0 : 1, 7);
      Due.is("18: level over sill " + lowest, map.level(1, 1), 7);
    }
    WatershedMap behind = Maps.of("9 9 9 9 9", "9 0 8 0 6", "9 9 9 7 9", "9 9 9 5 9");
    Due.is("18: level of the inner hollow", behind.level(1, 1), 8);
    Due.is("18: level of the outer hollow", behind.level(3, 1), 6);
    Due.is("18: level of the sill between", behind.level(2, 1), 8);
  }

  /** "over NEIGHBOURS that are not SLANTED": low corners let nothing out. */
  private static void levelNotSlanted() {
    WatershedMap map = Maps.of("0 9 0", "8 1 9", "0 9 0");
    Due.is("18: level with low corners", map.level(1, 1), 8);
    map.set(0, 1, 9);
    Due.is("18: level behind four walls", map.level(1, 1), 9);
  }

  /** A MAP of 16 times 16 with one LAKE. */
  private static void levelOfTheLargest() {
    WatershedMap map = Maps.basin();
    Due.is("18: level(1, 1)", map.level(1, 1), 999);
    Due.is("18: level(14, 14)", map.level(14, 14), 999);
    map.set(15, 15, 0);
    Due.is("18: level(14, 14) with a low corner", map.level(14, 14), 999);
    map.set(15, 14, 5);
    Due.is("18: level(1, 1) with a sill far off", map.level(1, 1), 5);
    map.set(15, 14, 0);
    Due.is("18: level(1, 1) with a way out", map.level(1, 1), 0);
  }

  /** "if its LEVEL is above its HEIGHT": one above, just as high. */
  private static void levelAboveHeight() {
    WatershedMap map = Maps.of("9 9 9", "9 8 9", "9 9 9");
    Due.is("19: lakes() of depth 1", map.lakes(), 1);
    Due.is("20: FIELDS of it", map.lake(1, 1, 0), 1);
    Due.is("20: it holds", map.lake(1, 1, 1), 1);
    map.set(1, 1, 9);
    Due.is("19: lakes() of depth 0", map.lakes(), 0);
    Due.is("20: FIELDS of none", map.lake(1, 1, 0), 0);
    Due.is("20: none holds", map.lake(1, 1, 1), 0);
    map.set(1, 1, 10);
    Due.is("19: lakes() of a peak", map.lakes(), 0);
  }

  /** "0 each, if it is of none"; no LAKE at all. */
  private static void noLake() {
    WatershedMap[] maps = {Maps.of("0 999", "999 0"), Maps.flat(16, 16, 0), Maps.flat(16, 16, 999), Maps.slope(16, 16),
        Maps.of("9 9 9 9", "9 0 0 9"), Maps.of("9 9", "0 9", "0 9", "9 9")};
    for (WatershedMap map : maps) {
      Due.is("19: lakes() of none", map.lakes(), 0);
      Due.is("21: volume() of none", map.volume(), 0);
      Due.is("20: FIELDS of none in a corner", map.lake(0, 0, 0), 0);
      Due.is("20: none in a corner holds", map.lake(0, 0, 1), 0);
      Due.is("20: FIELDS of none", map.lake(1, 1, 0), 0);
      Due.is("20: none holds", map.lake(1, 1, 1), 0);
    }
  }

  /** "FIELDS of LAKES that are NEIGHBOURS, not SLANTED, are of one LAKE". */
  private static void lakesThatTouch() {
    WatershedMap map = Maps.of("9 9 9 9", "9 1 9 9", "9 9 2 9", "9 9 9 9");
    Due.is("19: lakes() a slant apart", map.lakes(), 2);
    Due.is("20: FIELDS of the one", map.lake(1, 1, 0), 1);
    Due.is("20: the other one holds", map.lake(2, 2, 1), 7);
    map.set(2, 1, 8);
    Due.is("19: lakes() with a bridge", map.lakes(), 1);
    Due.is("20: FIELDS with a bridge", map.lake(2, 2, 0), 3);
    Due.is("20: all hold", map.lake(2, 1, 1), 8 + 1 + 7);
    WatershedMap rising = Maps.of("9 9 9 9", "9 9 1 9", "9 2 9 9", "9 9 9 9");
    Due.is("19: lakes() the other slant apart", rising.lakes(), 2);
  }

  /** A LAKE round an island that is as high as its LEVEL, and one below it. */
  private static void lakeAsAWhole() {
    WatershedMap map = Maps.of("9 9 9 9 9", "9 1 1 1 9", "9 1 9 1 9", "9 1 1 1 9", "9 9 9 9 9");
    Due.is("19: lakes() of a ring", map.lakes(), 1);
    Due.is("20: FIELDS of a ring", map.lake(3, 3, 0), 8);
    Due.is("20: FIELDS of none on the island", map.lake(2, 2, 0), 0);
    map.set(2, 2, 8);
    Due.is("20: FIELDS with the island under water", map.lake(2, 2, 0), 9);
    Due.is("20: all hold", map.lake(1, 1, 1), 65);
    Due.is("20: the EDGE is of none", map.lake(4, 4, 1), 0);
  }

  /** "how many LAKES there are": the most that there can be. */
  private static void mostLakes() {
    WatershedMap map = Maps.chessBoard(10);
    Due.is("19: lakes() of a chess board", map.lakes(), 98);
    Due.is("21: volume() of a chess board", map.volume(), 980);
    Due.is("20: FIELDS of one", map.lake(14, 14, 0), 1);
    Due.is("20: one holds", map.lake(1, 1, 1), 10);
    Due.is("20: FIELDS of none between", map.lake(1, 2, 0), 0);
    Due.is("20: FIELDS of none at the EDGE", map.lake(0, 2, 0), 0);
  }

  /** "how much all LAKES hold": the most that there can be. */
  private static void largestLake() {
    WatershedMap map = Maps.basin();
    Due.is("19: lakes() of the largest", map.lakes(), 1);
    Due.is("20: FIELDS of the largest", map.lake(7, 7, 0), 196);
    Due.is("20: the largest holds", map.lake(14, 1, 1), 196 * 999);
    Due.is("21: volume() of the largest", map.volume(), 196 * 999);
    map.set(0, 7, 998);
    Due.is("21: volume() with a sill of 998", map.volume(), 196 * 998);
  }

  private static void contourIs(String what, WatershedMap map, int c, int pieces, int lines, int closed) {
    Due.is("22: pieces of " + what + " at " + c, map.contour(c, 0), pieces);
    Due.is("22: LINES of " + what + " at " + c, map.contour(c, 1), lines);
    Due.is("22: CLOSED of " + what + " at " + c, map.contour(c, 2), closed);
  }

  /** "A corner is HIGH, if its HEIGHT is above c": one above, just as high, one below. */
  private static void aboveC() {
    WatershedMap map = Maps.of("0 0 0", "0 100 0", "0 0 0");
    contourIs("a peak of 100", map, 99, 4, 1, 1);
    contourIs("a peak of 100", map, 100, 0, 0, 0);
    contourIs("a peak of 100", map, 101, 0, 0, 0);
    WatershedMap hole = Maps.of("100 100 100", "100 99 100", "100 100 100");
    contourIs("a hole of 99", hole, 98, 0, 0, 0);
    contourIs("a hole of 99", hole, 99, 4, 1, 1);
    contourIs("a hole of 99", hole, 100, 0, 0, 0);
  }

  /** "c is not 0 to 999". */
  private static void leastAndGreatestC() {
    WatershedMap map = Maps.of("0 0 0", "0 1 0", "0 0 0");
    contourIs("a peak of 1", map, 0, 4, 1, 1);
    contourIs("a peak of 1", map, 1, 0, 0, 0);
    WatershedMap top = Maps.of("998 998 998", "998 999 998", "998 998 998");
    contourIs("a peak of 999", top, 998, 4, 1, 1);
    contourIs("a peak of 999", top, 999, 0, 0, 0);
    for (int wrong : new int[] {-1, 1000}) {
      Due.illegal(map, "22: contour(" + wrong + ", 0)", () -> map.contour(wrong, 0));
      Due.illegal(map, "22: contour(" + wrong + ", 3)", () -> map.contour(wrong, 3));
    }
    Due.illegal(map, "22: contour(0, -1)", () -> map.contour(0, -1));
    Due.illegal(map, "22: contour(999, 3)", () -> map.contour(999, 3));
  }

  /** "four of them [..] are a SQUARE": the only one, with each set of HIGH corners. */
  private static void smallestSquare() {
    int[] pieces = {0, 1, 1, 1, 1, 1, 2, 1, 1, 2, 1, 1, 1, 1, 1, 0};
    for (int high = 0; high < 16; high++) {
      WatershedMap map = new WatershedMap();
      map.reset(2, 2);
      for (int k = 0; k < 4; k++) {
        map.set(k % 2, k / 2, (high >> k & 1) * 8);
      }
      contourIs("a SQUARE " + high, map, 3, pieces[high], pieces[high], 0);
      contourIs("a SQUARE " + high, map, 4, pieces[high], pieces[high], 0);
      contourIs("a SQUARE " + high, map, 8, 0, 0, 0);
    }
  }

  /** "a SQUARE with two POINTS has a piece of a line": LINES that go straight on through all SQUARES. */
  private static void squaresWithTwoPoints() {
    contourIs("a step", Maps.of("9 9 9 9", "0 0 0 0"), 4, 3, 1, 0);
    contourIs("a step along y", Maps.of("9 0", "9 0", "9 0", "9 0"), 4, 3, 1, 0);
    contourIs("a slanted step", Maps.of("9 9 9", "9 9 0", "9 0 0"), 4, 3, 1, 0);
    contourIs("a ridge", Maps.of("0 0 0 0", "9 9 9 9", "0 0 0 0"), 4, 6, 2, 0);
  }

  /** "if the sum of its four HEIGHTS is above 4 * c": just that, and one more. */
  private static void sumOfASquare() {
    String[] others = {"10 0 0", "0 0 10", "0 0 0"};
    String[] belows = {"0 0 0", "0 0 0", "10 0 0"};
    for (int k = 0; k < 3; k++) {
      WatershedMap map = Maps.of(others[k], "0 10 0", belows[k]);
      contourIs("two peaks with 20", map, 5, 5, 2, 1);
      contourIs("two peaks with 20", map, 4, 5, 1, 0);
      map.set(1, 1, 11);
      contourIs("two peaks with 21", map, 5, 5, 1, 0);
    }
    WatershedMap holes = Maps.of("0 10 10", "10 0 10", "10 10 10");
    contourIs("two holes with 20", holes, 5, 5, 1, 0);
    contourIs("two holes with 20", holes, 4, 5, 2, 1);
    holes.set(1, 1, 1);
    contourIs("two holes with 21", holes, 5, 5, 2, 1);
  }

  /** No LINE: plains, and numbers above and below all. */
  private static void noLine() {
    for (int c : new int[] {0, 499, 500, 999}) {
      contourIs("the smallest plain", Maps.flat(2, 2, 500), c, 0, 0, 0);
      contourIs("the largest plain", Maps.flat(16, 16, 500), c, 0, 0, 0);
    }
    WatershedMap map = Maps.of("20 30", "30 40");
    contourIs("a slope", map, 19, 0, 0, 0);
    contourIs("a slope", map, 40, 0, 0, 0);
    contourIs("a slope", map, 20, 1, 1, 0);
    contourIs("a slope", map, 39, 1, 1, 0);
  }

  /** "one that ends at the side of the MAP is not": a peak inside, at each EDGE, in each corner. */
  private static void closedOrNot() {
    for (int number = 0; number < 9; number++) {
      int x = number % 3;
      int y = number / 3;
      WatershedMap map = new WatershedMap();
      map.reset(3, 3);
      map.set(x, y, 9);
      int pieces = number == 4 ? 4 : number % 2 == 1 ? 2 : 1;
      contourIs("a peak at " + x + ", " + y, map, 4, pieces, 1, number == 4 ? 1 : 0);
    }
    WatershedMap both = Maps.of("9 0 0 0 0", "0 0 0 9 0", "0 0 0 0 0");
    contourIs("a corner and a peak", both, 4, 5, 2, 1);
  }

  /** The longest LINE round a MAP of 16 times 16, and one that is not CLOSED. */
  private static void largestLine() {
    WatershedMap map = Maps.basin();
    contourIs("a basin", map, 0, 56, 1, 1);
    contourIs("a basin", map, 998, 56, 1, 1);
    contourIs("a basin", map, 999, 0, 0, 0);
    map.set(7, 0, 0);
    // one POINT less, and two more at the gap's sides: an open LINE of 57 POINTS
    contourIs("a basin with a gap", map, 500, 56, 1, 0);
  }

  /** "Pieces that have a POINT in common are of one LINE": two in one SQUARE have none, but both may be of one. */
  private static void linesInOneSquare() {
    WatershedMap map = Maps.of("0 0 0 0", "0 10 0 0", "0 0 10 0", "0 0 0 0");
    contourIs("two peaks inside, apart", map, 5, 8, 2, 2);
    contourIs("two peaks inside, joined", map, 4, 8, 1, 1);
    WatershedMap board = Maps.chessBoard(10);
    contourIs("a chess board", board, 4, 450, 128, 98);
    contourIs("a chess board", board, 5, 450, 128, 98);
    contourIs("a chess board", board, 9, 450, 128, 98);
    contourIs("a chess board", board, 10, 0, 0, 0);
  }
}
