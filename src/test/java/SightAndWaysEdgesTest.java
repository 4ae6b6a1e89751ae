/** Terms 5 and 6 and promises 23 to 27: a test for each sentence that names a boundary, told ahead of it. */
final class SightAndWaysEdgesTest {
  private static final int MOST = Integer.MAX_VALUE;

  public static void main(String[] args) {
    ownField();
    neighbours();
    justAsHigh();
    alongASlope();
    leastAndGreatestUp();
    eyeAbove999();
    cutDownwards();
    cornerToCorner();
    seenInAll();
    seenFromAHole();
    takesNothing();
    takesOneStep();
    takesFromCornerToCorner();
    takesRoundOrOver();
    leastAndGreatestBack();
    smallestNumber();
    smallestNumberOfAll();
    wayOfTheLargest();
    steepnessOfAPlain();
    steepnessAtItsMost();
    steepnessNotCut();
    Due.end();
  }

  /** "The own FIELD is seen, and counts." */
  private static void ownField() {
    for (int up : new int[] {0, 1, 500}) {
      WatershedMap map = Maps.of("0 999", "999 0");
      Due.is("23: the own FIELD in a hole, " + up + " up", map.sees(0, 0, up, 0, 0), true);
      Due.is("23: the own FIELD on a peak, " + up + " up", map.sees(1, 0, up, 1, 0), true);
    }
  }

  /** "for each k from 1 to n - 1": nothing is between NEIGHBOURS, and neither end hides. */
  private static void neighbours() {
    WatershedMap map = Maps.of("0 999", "999 0");
    for (int from = 0; from < 4; from++) {
      for (int to = 0; to < 4; to++) {
        boolean sees = map.sees(from % 2, from / 2, 0, to % 2, to / 2);
        Due.is("23: on the smallest MAP from " + from + " to " + to, sees, true);
      }
    }
    WatershedMap ends = Maps.of("999 0 0", "0 0 999");
    Due.is("23: from a peak", ends.sees(0, 0, 0, 2, 0), true);
    Due.is("23: to a peak", ends.sees(0, 1, 0, 2, 1), true);
  }

  /** "(just as high it does not)": with n 2, 1 more on both sides together or on the one between. */
  private static void justAsHigh() {
    WatershedMap map = Maps.of("10 15 20", "0 0 0");
    Due.is("23: 15 between 10 and 20", map.sees(0, 0, 0, 2, 0), true);
    Due.is("23: 15 between 20 and 10", map.sees(2, 0, 0, 0, 0), true);
    map.set(1, 0, 16);
    Due.is("23: 16 between 10 and 20", map.sees(0, 0, 0, 2, 0), false);
    Due.is("23: 16 between 11 and 20", map.sees(0, 0, 1, 2, 0), false);
    Due.is("23: 16 between 12 and 20", map.sees(0, 0, 2, 2, 0), true);
    Due.is("23: 16 between 20 and 10", map.sees(2, 0, 0, 0, 0), false);
    Due.is("23: a plain of 999", Maps.flat(3, 2, 999).sees(0, 0, 0, 2, 0), true);
  }

  /** "above e * (n - k) + t * k": with the greatest n, at each k. */
  private static void alongASlope() {
    for (int k = 1; k <= 14; k++) {
      WatershedMap map = new WatershedMap();
      map.reset(16, 2);
      map.set(15, 0, 15);
      map.set(k, 0, k);
      Due.is("23: " + k + " at " + k, map.sees(0, 0, 0, 15, 0), true);
      Due.is("23: " + k + " at " + k + ", from above", map.sees(15, 0, 0, 0, 0), true);
      map.set(k, 0, k + 1);
      Due.is("23: one more at " + k, map.sees(0, 0, 0, 15, 0), false);
      Due.is("23: one more at " + k + ", from above", map.sees(15, 0, 0, 0, 0), false);
    }
  }

  /** "if up is not 0 to 500". */
  private static void leastAndGreatestUp() {
    WatershedMap map = Maps.of("0 250 0", "0 251 0");
    Due.is("23: over 250, 500 up", map.sees(0, 0, 500, 2, 0), true);
    Due.is("23: over 250, 499 up", map.sees(0, 0, 499, 2, 0), false);
    Due.is("23: over 251, 500 up", map.sees(0, 1, 500, 2, 1), false);
    // (2, 1) is hidden from both, as (1, 1) is between
    Due.is("24: seen(0, 0, 500)", map.seen(0, 0, 500), 5);
    Due.is("24: seen(0, 0, 499)", map.seen(0, 0, 499), 4);
    Due.is("24: seen(0, 1, 500)", map.seen(0, 1, 500), 4);
    Due.is("24: seen(0, 0, 0)", map.seen(0, 0, 0), 4);
    for (int wrong : new int[] {-1, 501}) {
      Due.illegal(map, "23: sees, " + wrong + " up", () -> map.sees(0, 0, wrong, 2, 0));
      Due.illegal(map, "23: sees the own FIELD, " + wrong + " up", () -> map.sees(0, 0, wrong, 0, 0));
      Due.illegal(map, "24: seen, " + wrong + " up", () -> map.seen(0, 0, wrong));
      Due.illegal(map, "30: lookout, " + wrong + " up", () -> map.lookout(0, wrong));
    }
  }

  /** "(which can be above 999)": from 1499 down to 0 a FIELD of 999 hides from the sixth of fifteen on. */
  private static void eyeAbove999() {
    for (int k = 1; k <= 14; k++) {
      WatershedMap map = new WatershedMap();
      map.reset(16, 2);
      map.set(0, 0, 999);
      map.set(k, 0, 999);
      Due.is("23: 999 at " + k + " from 1499", map.sees(0, 0, 500, 15, 0), k <= 5);
      Due.is("23: 999 at " + k + " from 1000", map.sees(0, 0, 1, 15, 0), false);
    }
  }

  /** "here / is cut downwards": a quarter back is the FIELD ahead, a half back is not. */
  private static void cutDownwards() {
    int[][] betweens = {{1, 1}, {2, 1}, {3, 0}};
    for (int number = 0; number < 10; number++) {
      WatershedMap map = new WatershedMap();
      map.reset(5, 2);
      int x = number % 5;
      int y = number / 5;
      map.set(x, y, 9);
      boolean hidden = false;
      for (int[] between : betweens) {
        hidden = hidden || between[0] == x && between[1] == y;
      }
      boolean end = number == 4 || number == 5;
      Due.is("23: up past " + x + ", " + y, map.sees(0, 1, 0, 4, 0), !hidden || end);
    }
    WatershedMap along = Maps.of("0 0", "0 0", "0 0", "9 0", "0 0");
    Due.is("23: -2 / 8 is -1, along x", along.sees(1, 0, 0, 0, 4), false);
    along.set(0, 3, 0);
    along.set(1, 3, 9);
    Due.is("23: -2 / 8 is not 0, along x", along.sees(1, 0, 0, 0, 4), true);
    Due.is("23: 4 / 4 is 1", Maps.of("0 0 0", "0 9 0").sees(0, 0, 0, 2, 1), false);
    Due.is("23: 0 / 4 is 0", Maps.of("0 0 0", "0 9 0").sees(0, 1, 0, 2, 0), false);
  }

  /** "n as the greater one of |dx| and |dy|": the diagonals of the largest MAP. */
  private static void cornerToCorner() {
    WatershedMap map = new WatershedMap();
    map.reset(16, 16);
    map.set(7, 7, 1);
    Due.is("23: down to the right", map.sees(0, 0, 0, 15, 15), false);
    Due.is("23: up to the left", map.sees(15, 15, 0, 0, 0), false);
    Due.is("23: down to the left", map.sees(15, 0, 0, 0, 15), true);
    map.set(7, 8, 1);
    Due.is("23: down to the left, hidden", map.sees(15, 0, 0, 0, 15), false);
    Due.is("23: up to the right, hidden", map.sees(0, 15, 0, 15, 0), false);
    Due.is("23: one FIELD less", map.sees(0, 0, 0, 6, 6), true);
    Due.is("23: just that FIELD", map.sees(0, 0, 0, 7, 7), true);
    Due.is("23: the FIELD behind", map.sees(0, 0, 0, 8, 8), false);
  }

  /** "how many FIELDS it sees": all of the smallest and of the largest MAP. */
  private static void seenInAll() {
    Due.is("24: on the smallest MAP", Maps.of("0 999", "999 0").seen(0, 0, 0), 4);
    WatershedMap plain = Maps.flat(16, 16, 999);
    Due.is("24: from a corner of a plain", plain.seen(15, 15, 0), 256);
    Due.is("24: from inside a plain, 500 up", plain.seen(8, 7, 500), 256);
  }

  /** The fewest: the own FIELD and its NEIGHBOURS. */
  private static void seenFromAHole() {
    WatershedMap map = Maps.flat(5, 5, 0);
    for (int number = 6; number < 19; number++) {
      if (number % 5 > 0 && number % 5 < 4 && number != 12) {
        map.set(number % 5, number / 5, 999);
      }
    }
    Due.is("24: from a hole inside", map.seen(2, 2, 0), 9);
    Due.is("24: from a corner behind a wall", map.seen(0, 0, 0), 5 + 4 + 1);
    WatershedMap corner = Maps.of("0 9 0", "9 9 0", "0 0 0");
    Due.is("24: from a hole in a corner", corner.seen(0, 0, 0), 4);
  }

  /** "(0 to itself)". */
  private static void takesNothing() {
    WatershedMap map = Maps.of("0 999", "999 0");
    for (int number = 0; number < 4; number++) {
      Due.is("25: to itself", map.takes(number % 2, number / 2, number % 2, number / 2), 0);
      Due.is("26: the last FIELD", map.way(number % 2, number / 2, number % 2, number / 2, 0), number);
      Due.is("26: ahead of the first one", map.way(number % 2, number / 2, number % 2, number / 2, 1), -1);
    }
  }

  /** "10 (14, if it is SLANTED) and the difference of the HEIGHTS, without a sign". */
  private static void takesOneStep() {
    int[][] steps = {{1, 0, 10}, {1, 1, 14}, {0, 1, 10}};
    for (int[] step : steps) {
      WatershedMap map = Maps.flat(2, 2, 999);
      Due.is("25: level", map.takes(0, 0, step[0], step[1]), step[2]);
      map.set(0, 0, 998);
      Due.is("25: one up", map.takes(0, 0, step[0], step[1]), step[2] + 1);
      Due.is("25: one down", map.takes(step[0], step[1], 0, 0), step[2] + 1);
      map.set(0, 0, 0);
      Due.is("25: 999 up", map.takes(0, 0, step[0], step[1]), step[2] + 999);
      Due.is("25: 999 down", map.takes(step[0], step[1], 0, 0), step[2] + 999);
    }
  }

  /** The farthest FIELDS of the smallest and of the largest MAP. */
  private static void takesFromCornerToCorner() {
    WatershedMap plain = Maps.flat(16, 16, 3);
    Due.is("25: slanted all the way", plain.takes(0, 0, 15, 15), 15 * 14);
    Due.is("25: the other diagonal", plain.takes(0, 15, 15, 0), 15 * 14);
    Due.is("25: straight all the way", plain.takes(15, 0, 0, 0), 15 * 10);
    Due.is("25: along y", plain.takes(0, 0, 0, 15), 15 * 10);
    Due.is("25: slanted, then straight", plain.takes(0, 0, 15, 7), 7 * 14 + 8 * 10);
    Due.is("25: over the smallest MAP", Maps.flat(2, 2, 0).takes(1, 1, 0, 0), 14);
    WatershedMap poles = new WatershedMap();
    poles.reset(16, 16);
    poles.set(0, 0, 999);
    poles.set(15, 15, 999);
    Due.is("25: from a peak to a peak", poles.takes(0, 0, 15, 15), 15 * 14 + 2 * 999);
  }

  /** "the one that takes least": over or round with one more and one less. */
  private static void takesRoundOrOver() {
    // round takes 28, over 20 and twice the HEIGHT
    int[] dues = {20, 22, 24, 26, 28, 28};
    for (int height = 0; height < dues.length; height++) {
      WatershedMap map = Maps.of("0 " + height + " 0", "0 0 0");
      Due.is("25: over or round " + height, map.takes(0, 0, 2, 0), dues[height]);
      // alike with 4: the smaller NUMBER is the one over it
      Due.is("26: over or round " + height, map.way(0, 0, 2, 0, 1), height <= 4 ? 1 : 4);
    }
  }

  /** "0 for the last FIELD of the WAY"; "-1 ahead of the first one (also further back)"; "if back is below 0". */
  private static void leastAndGreatestBack() {
    WatershedMap map = Maps.flat(2, 2, 5);
    Due.is("26: 0 back", map.way(0, 0, 1, 1, 0), 3);
    Due.is("26: 1 back", map.way(0, 0, 1, 1, 1), 0);
    for (int back : new int[] {2, 3, 4, 5, 255, 256, 257, MOST - 1, MOST}) {
      Due.is("26: " + back + " back", map.way(0, 0, 1, 1, back), -1);
      Due.is("26: " + back + " back from itself", map.way(1, 0, 1, 0, back), -1);
    }
    Due.illegal(map, "26: -1 back", () -> map.way(0, 0, 1, 1, -1));
    Due.illegal(map, "26: -1 back from itself", () -> map.way(0, 0, 0, 0, -1));
  }

  private static void wayIs(String what, WatershedMap map, int[] ends, int... numbers) {
    for (int back = 0; back < numbers.length; back++) {
      Due.is("26: " + what + ", " + back + " back", map.way(ends[0], ends[1], ends[2], ends[3], back), numbers[back]);
    }
  }

  /** "of the FIELDS from which one can come to a FIELD with least, that with the smallest NUMBER". */
  private static void smallestNumber() {
    WatershedMap plain = Maps.flat(3, 3, 5);
    wayIs("to the right and down", plain, new int[] {0, 0, 2, 1}, 5, 1, 0, -1);
    wayIs("to the left and up", plain, new int[] {2, 1, 0, 0}, 0, 1, 5, -1);
    wayIs("down and to the right", plain, new int[] {0, 0, 1, 2}, 7, 3, 0, -1);
    wayIs("up and to the left", plain, new int[] {1, 2, 0, 0}, 0, 3, 7, -1);
    wayIs("up and to the right", plain, new int[] {0, 2, 2, 1}, 5, 4, 6, -1);
    wayIs("to the left and down", plain, new int[] {2, 1, 0, 2}, 6, 4, 5, -1);
    wayIs("round a peak", Maps.of("0 0 0", "0 999 0", "0 0 0"), new int[] {0, 1, 2, 1}, 5, 1, 3, -1);
    wayIs("from above round a peak", Maps.of("0 0 0", "0 999 0", "0 0 0"), new int[] {1, 0, 1, 2}, 7, 3, 1, -1);
  }

  /** Not the smallest NUMBER of the first steps: it is taken at each FIELD, from the end backwards. */
  private static void smallestNumberOfAll() {
    WatershedMap row = Maps.flat(16, 2, 0);
    Due.is("26: the end", row.way(0, 0, 15, 1, 0), 31);
    for (int back = 1; back <= 15; back++) {
      Due.is("26: " + back + " back along the row above", row.way(0, 0, 15, 1, back), 15 - back);
    }
    Due.is("26: ahead of the first one", row.way(0, 0, 15, 1, 16), -1);
    for (int back = 0; back <= 14; back++) {
      Due.is("26: " + back + " back along the row above, to FIELD 0", row.way(15, 1, 0, 0, back), back);
    }
    Due.is("26: the first one below", row.way(15, 1, 0, 0, 15), 31);
    Due.is("26: ahead of that", row.way(15, 1, 0, 0, 16), -1);
  }

  /** The WAY with most FIELDS of a plain, and one through a maze. */
  private static void wayOfTheLargest() {
    WatershedMap plain = Maps.flat(16, 16, 1);
    for (int back = 0; back <= 15; back++) {
      Due.is("26: " + back + " back on the diagonal", plain.way(0, 0, 15, 15, back), 255 - 17 * back);
    }
    Due.is("26: 16 back on the diagonal", plain.way(0, 0, 15, 15, 16), -1);
    WatershedMap maze = Maps.of("0 0 0 0 0", "999 999 999 999 0", "0 0 0 0 0", "0 999 999 999 999", "0 0 0 0 0");
    Due.is("25: through a maze", maze.takes(0, 0, 4, 4), 8 * 10 + 4 * 14);
    wayIs("through a maze", maze, new int[] {0, 0, 4, 4}, 24, 23, 22, 21, 15, 11, 12, 13, 9, 3, 2, 1, 0, -1);
  }

  /** Nothing: plains of the smallest and of the largest MAP. */
  private static void steepnessOfAPlain() {
    Due.is("27: of the smallest plain", Maps.flat(2, 2, 0).steepness(), 0.0);
    Due.is("27: of the largest plain", Maps.flat(16, 16, 999).steepness(), 0.0);
  }

  /** "the greatest difference of its HEIGHT and that of a NEIGHBOUR, without a sign": 999 everywhere. */
  private static void steepnessAtItsMost() {
    Due.is("27: of the smallest MAP", Maps.of("0 999", "0 0").steepness(), 999.0);
    Due.is("27: of the largest MAP", Maps.chessBoard(999).steepness(), 999.0);
  }

  /** "the mean over all FIELDS, not cut": a peak in a corner, at the EDGE and inside. */
  private static void steepnessNotCut() {
    int[][] dues = {{0, 0, 4}, {15, 15, 4}, {7, 0, 6}, {0, 7, 6}, {15, 8, 6}, {8, 8, 9}};
    for (int[] due : dues) {
      WatershedMap map = new WatershedMap();
      map.reset(16, 16);
      map.set(due[0], due[1], 1);
      Due.is("27: a peak at " + due[0] + ", " + due[1], map.steepness(), due[2] / 256.0);
    }
    Due.is("27: a third", Maps.of("0 0 0", "0 0 0", "0 0 0", "1 0 0").steepness(), 4.0 / 12);
    Due.is("27: SLANTED ones count", Maps.of("0 0", "0 7").steepness(), 7.0);
    Due.is("27: those beside it alone", Maps.of("0 0 0", "0 0 7").steepness(), 4 * 7 / 6.0);
  }
}
