/** Promises 13 to 17: where water goes, and the STREAMS. */
final class WaterTest {
  private static final String[] FUNNEL = {"9 9 9", "9 5 9", "9 0 9"};
  private static final String[] FORK = {"90 90 90 90 90", "90 50 20 50 90", "90 90 10 90 90"};

  public static void main(String[] args) {
    eachDirection();
    greatestFall();
    outAndPits();
    flowEndAndDistance();
    ranks();
    ranksOfAFork();
    unevenRanks();
    toFieldZero();
    wrongInputs();
    basinsAndPits();
    mostRank();
    longestStream();
    Due.end();
  }

  private static void eachDirection() {
    int[] toX = {2, 2, 1, 0, 0, 0, 1, 2};
    int[] toY = {1, 2, 2, 2, 1, 0, 0, 0};
    for (int d = 0; d < 8; d++) {
      WatershedMap map = Maps.flat(3, 3, 10);
      map.set(toX[d], toY[d], 9);
      Due.is("13: DIRECTION " + d, map.water(1, 1, 0), d);
      Due.is("13: END in DIRECTION " + d, map.water(1, 1, 2), toY[d] * 3 + toX[d]);
    }
  }

  private static void greatestFall() {
    Due.is("13: 60 straight, 63 slanted", Maps.of("10 10 10", "10 10 4", "10 10 1").water(1, 1, 0), 1);
    Due.is("13: 60 straight, 56 slanted", Maps.of("10 10 10", "10 10 4", "10 10 2").water(1, 1, 0), 0);
    Due.is("13: 70 slanted (1), 70 straight (2)", Maps.of("20 20 20", "20 20 20", "20 13 10").water(1, 1, 0), 1);
    Due.is("13: 70 straight (0), 70 slanted (1)", Maps.of("20 20 20", "20 20 13", "20 20 10").water(1, 1, 0), 0);
    Due.is("13: all the same", Maps.of("0 0 0", "0 9 0", "0 0 0").water(1, 1, 0), 0);
    Due.is("13: 40 straight (4), 40 straight (6)", Maps.of("9 5 9", "5 9 9", "9 9 9").water(1, 1, 0), 4);
    Due.is("13: 70 slanted (7), 80 straight (6)", Maps.of("20 12 10", "20 20 20", "20 20 20").water(1, 1, 0), 6);
  }

  private static void outAndPits() {
    WatershedMap map = Maps.of("9 9 9 9", "9 3 9 9", "9 9 9 2");
    Due.is("13: a PIT", map.water(1, 1, 0), 9);
    Due.is("13: its END", map.water(1, 1, 2), 5);
    Due.is("13: OUT", map.water(3, 2, 0), 8);
    Due.is("13: from the EDGE inwards", map.water(0, 1, 0), 0);
    Due.is("13: OUT of the upper right corner", map.water(3, 0, 0), 8);
    WatershedMap plain = Maps.flat(4, 3, 7);
    Due.is("13: a plain's EDGE", plain.water(0, 1, 0), 8);
    Due.is("13: a plain's inside", plain.water(1, 1, 0), 9);
    Due.is("13: a plain's last FIELD", plain.water(3, 2, 0), 8);
    Due.is("13: a plain's FLOW", plain.water(2, 1, 1), 1);
  }

  private static void flowEndAndDistance() {
    WatershedMap map = Maps.of(FUNNEL);
    Due.is("13: FLOW of the top", map.water(0, 0, 1), 1);
    Due.is("13: FLOW of the middle", map.water(1, 1, 1), 4);
    Due.is("13: FLOW of the END", map.water(1, 2, 1), 9);
    Due.is("13: END of the top", map.water(2, 0, 2), 7);
    Due.is("13: END of the END", map.water(1, 2, 2), 7);
    Due.is("13: from the top to the END", map.water(0, 0, 4), 2);
    Due.is("13: from the middle to the END", map.water(1, 1, 4), 1);
    Due.is("13: from the side to the END", map.water(0, 1, 4), 1);
    Due.is("13: from the END to itself", map.water(1, 2, 4), 0);
  }

  private static void ranks() {
    WatershedMap map = Maps.of(FUNNEL);
    Due.is("13: RANK where no STREAM goes to it", map.water(1, 2, 3), 1);
    Due.is("13: RANK below BROOK", map.water(1, 1, 3), 0);
    map.setBrook(4);
    Due.is("13: RANK with FLOW as BROOK", map.water(1, 1, 3), 1);
    Due.is("13: RANK behind one", map.water(1, 2, 3), 1);
    map.setBrook(1);
    Due.is("13: RANK of a source", map.water(0, 0, 3), 1);
    Due.is("13: RANK behind three of 1", map.water(1, 1, 3), 2);
    Due.is("13: RANK behind one of 2 and four of 1", map.water(1, 2, 3), 2);
    map.setBrook(10);
    Due.is("13: RANK without STREAMS", map.water(1, 2, 3), 0);
  }

  private static void ranksOfAFork() {
    WatershedMap map = Maps.of(FORK);
    map.setBrook(1);
    Due.is("13: RANK of the left arm", map.water(1, 1, 3), 2);
    Due.is("13: RANK of the right arm", map.water(3, 1, 3), 2);
    Due.is("13: RANK behind two of 2 and three of 1", map.water(2, 1, 3), 3);
    Due.is("13: RANK behind one of 3", map.water(2, 2, 3), 3);
    Due.is("13: FLOW of the trunk", map.water(2, 1, 1), 12);
    Due.is("13: FLOW of the mouth", map.water(2, 2, 1), 15);
  }

  private static void unevenRanks() {
    WatershedMap map = Maps.of("90 80 70 60", "99 99 99 10", "30 30 20 15");
    map.setBrook(1);
    Due.is("13: a chain", map.water(2, 0, 0), 1);
    Due.is("13: RANK of the mouth", map.water(3, 1, 3), 2);
  }

  private static void toFieldZero() {
    WatershedMap map = Maps.of("0 5", "6 7");
    Due.is("13: FLOW of FIELD 0", map.water(0, 0, 1), 4);
    Due.is("13: END of the other corner", map.water(1, 1, 2), 0);
    Due.is("13: from the other corner to FIELD 0", map.water(1, 1, 4), 1);
    Due.is("13: RANK below BROOK 5", map.water(0, 0, 3), 0);
    map.setBrook(1);
    Due.is("13: RANK of FIELD 0", map.water(0, 0, 3), 2);
    Due.is("16: mostRank() at FIELD 0", map.mostRank(), 2);
    Due.is("17: longestStream() to FIELD 0", map.longestStream(), 2);
  }

  private static void wrongInputs() {
    WatershedMap map = Maps.of(FUNNEL);
    for (int wrong : new int[] {-1, 3, Integer.MIN_VALUE, Integer.MAX_VALUE}) {
      Due.noField(map, "13: water(" + wrong + ", 0, 0)", () -> map.water(wrong, 0, 0));
      Due.noField(map, "13: water(0, " + wrong + ", 5)", () -> map.water(0, wrong, 5));
    }
    for (int wrong : new int[] {-1, 5, Integer.MIN_VALUE, Integer.MAX_VALUE}) {
      Due.illegal(map, "13: water(0, 0, " + wrong + ")", () -> map.water(0, 0, wrong));
    }
  }

  private static void basinsAndPits() {
    WatershedMap plain = Maps.flat(3, 3, 4);
    Due.is("14: basins() of a plain", plain.basins(), 9);
    Due.is("15: pits() of a plain", plain.pits(), 1);
    Due.is("14: basins() of a funnel", Maps.of(FUNNEL).basins(), 1);
    Due.is("15: pits() of a funnel", Maps.of(FUNNEL).pits(), 0);
    WatershedMap holes = Maps.of("9 9 9 9 9", "9 1 9 2 9", "9 9 9 9 9");
    Due.is("14: basins() of two holes", holes.basins(), 2);
    Due.is("15: pits() of two holes", holes.pits(), 2);
    WatershedMap mouth = Maps.of("9 9 9 9 9 9 9", "9 1 9 2 9 9 0", "9 9 9 9 9 9 9");
    Due.is("14: basins() with a mouth", mouth.basins(), 3);
    Due.is("15: pits() with a mouth", mouth.pits(), 2);
    Due.is("14: basins() without inside", Maps.flat(2, 16, 3).basins(), 32);
    Due.is("15: pits() without inside", Maps.flat(2, 16, 3).pits(), 0);
  }

  private static void mostRank() {
    WatershedMap map = Maps.of(FORK);
    Due.is("16: mostRank() with BROOK 5", map.mostRank(), 1);
    map.setBrook(4);
    Due.is("16: mostRank() with BROOK 4", map.mostRank(), 2);
    map.setBrook(1);
    Due.is("16: mostRank() with BROOK 1", map.mostRank(), 3);
    map.setBrook(16);
    Due.is("16: mostRank() without a STREAM", map.mostRank(), 0);
    map.setBrook(15);
    Due.is("16: mostRank() of the mouth alone", map.mostRank(), 1);
  }

  private static void longestStream() {
    WatershedMap map = Maps.of(FUNNEL);
    Due.is("17: longestStream() of one", map.longestStream(), 1);
    map.setBrook(4);
    Due.is("17: longestStream() of two", map.longestStream(), 2);
    map.setBrook(1);
    Due.is("17: longestStream() from the top", map.longestStream(), 3);
    map.setBrook(10);
    Due.is("17: longestStream() without a STREAM", map.longestStream(), 0);
    WatershedMap slope = new WatershedMap();
    slope.reset(16, 2);
    slope.tilt(10, 0, 0);
    slope.setBrook(1);
    Due.is("17: longestStream() of a long slope", slope.longestStream(), 16);
    slope.setBrook(16);
    Due.is("17: longestStream() at its end", slope.longestStream(), 1);
  }
}
