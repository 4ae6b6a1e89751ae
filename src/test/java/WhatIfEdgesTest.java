import java.math.BigInteger;

/** Promises 28 to 31: a test for each sentence that names a boundary, told ahead of it. */
final class WhatIfEdgesTest {
  public static void main(String[] args) {
    volumeWithoutInside();
    volumeWithLimits();
    volumeWithAtTheEdge();
    volumeWithTheLargest();
    endsWithTheSame();
    endsWithLimits();
    endsWithAll();
    endsWithAtTheEdge();
    nothingIsChanged();
    refusedChangesNothing();
    lookoutOfSeveral();
    lookoutAtTheSides();
    lookoutRows();
    digestOfTheSmallest();
    digestOfTheLargest();
    digestWrapsAround();
    digestAtItsContours();
    digestWithBrook();
    theLastCall();
    Due.end();
  }

  /** No LAKE can be: the smallest MAP. */
  private static void volumeWithoutInside() {
    for (int height : new int[] {0, 999}) {
      Due.is("28: on the smallest MAP", Maps.of("9 9", "9 9").volumeWith(1, 1, height), 0);
      Due.is("28: without inside", Maps.flat(16, 2, 500).volumeWith(7, 1, height), 0);
    }
  }

  /** "height is not 0 to 999": of a FIELD inside. */
  private static void volumeWithLimits() {
    WatershedMap map = Maps.flat(3, 3, 999);
    Due.is("28: with 0", map.volumeWith(1, 1, 0), 999);
    Due.is("28: with 998", map.volumeWith(1, 1, 998), 1);
    Due.is("28: with 999", map.volumeWith(1, 1, 999), 0);
    Due.is("28: volume() of now", map.volume(), 0);
    for (int wrong : new int[] {-1, 1000}) {
      Due.illegal(map, "28: volumeWith(1, 1, " + wrong + ")", () -> map.volumeWith(1, 1, wrong));
      Due.noField(map, "28: volumeWith(3, 1, " + wrong + ")", () -> map.volumeWith(3, 1, wrong));
      Due.noField(map, "28: volumeWith(1, -1, " + wrong + ")", () -> map.volumeWith(1, -1, wrong));
    }
  }

  /** A corner lets nothing out, a FIELD at the EDGE does. */
  private static void volumeWithAtTheEdge() {
    WatershedMap map = Maps.of("9 9 9", "9 1 9", "9 9 9");
    for (int number = 0; number < 9; number += 2) {
      Due.is("28: with 0 at " + number, map.volumeWith(number % 3, number / 3, 0), number == 4 ? 9 : 8);
    }
    for (int number = 1; number < 9; number += 2) {
      Due.is("28: with 0 at " + number, map.volumeWith(number % 3, number / 3, 0), 0);
      Due.is("28: with 5 at " + number, map.volumeWith(number % 3, number / 3, 5), 4);
      Due.is("28: with 999 at " + number, map.volumeWith(number % 3, number / 3, 999), 8);
    }
  }

  /** "how much all LAKES would hold": the most that there can be. */
  private static void volumeWithTheLargest() {
    WatershedMap map = Maps.basin();
    map.set(15, 7, 0);
    Due.is("28: with the gap closed", map.volumeWith(15, 7, 999), 196 * 999);
    Due.is("28: with a sill of 1", map.volumeWith(15, 7, 1), 196);
    Due.is("28: with the gap as it is", map.volumeWith(15, 7, 0), 0);
    Due.is("28: volume() of now", map.volume(), 0);
    Due.is("28: the gap is there", map.height(15, 7), 0);
  }

  /** None: the HEIGHT as it is. */
  private static void endsWithTheSame() {
    WatershedMap map = Maps.of("9 3 9", "9 5 9", "9 0 9");
    for (int number = 0; number < 9; number++) {
      int x = number % 3;
      int y = number / 3;
      Due.is("29: with the same HEIGHT at " + number, map.endsWith(x, y, map.height(x, y)), 0);
    }
  }

  /** "height is not 0 to 999": of a FIELD inside. */
  private static void endsWithLimits() {
    WatershedMap plain = Maps.flat(3, 3, 500);
    Due.is("29: with 0: all but that one", plain.endsWith(1, 1, 0), 8);
    Due.is("29: with 499", plain.endsWith(1, 1, 499), 8);
    Due.is("29: with 500", plain.endsWith(1, 1, 500), 0);
    Due.is("29: with 501: that one", plain.endsWith(1, 1, 501), 1);
    Due.is("29: with 999: that one", plain.endsWith(1, 1, 999), 1);
    for (int wrong : new int[] {-1, 1000}) {
      Due.illegal(plain, "29: endsWith(1, 1, " + wrong + ")", () -> plain.endsWith(1, 1, wrong));
      Due.noField(plain, "29: endsWith(-1, 1, " + wrong + ")", () -> plain.endsWith(-1, 1, wrong));
      Due.noField(plain, "29: endsWith(1, 3, " + wrong + ")", () -> plain.endsWith(1, 3, wrong));
    }
    WatershedMap smallest = Maps.flat(2, 2, 0);
    Due.is("29: on the smallest MAP with 0", smallest.endsWith(1, 1, 0), 0);
    Due.is("29: on the smallest MAP with 1", smallest.endsWith(1, 1, 1), 1);
  }

  /** Of all FIELDS: that in which all water was OUT is a peak. */
  private static void endsWithAll() {
    WatershedMap slope = Maps.slope(16, 16);
    Due.is("29: without the END", slope.endsWith(0, 0, 999), 256);
    Due.is("29: with the END one higher", slope.endsWith(0, 0, 1), 0);
    Due.is("29: with a source higher", slope.endsWith(15, 15, 999), 0);
    Due.is("29: with a new END", slope.endsWith(15, 15, 0), 4);
    Due.is("29: the END of now", slope.water(15, 15, 2), 0);
  }

  /** In corners and at the EDGE of a plain: those round it, itself not. */
  private static void endsWithAtTheEdge() {
    int[] dues = {3, 5, 3, 5, 8, 5, 3, 5, 3};
    WatershedMap plain = Maps.flat(3, 3, 9);
    for (int number = 0; number < 9; number++) {
      Due.is("29: with 8 at " + number, plain.endsWith(number % 3, number / 3, 8), dues[number]);
    }
  }

  /** "(nothing is changed)": asked of each FIELD of a MAP, with each limit. */
  private static void nothingIsChanged() {
    WatershedMap map = Maps.of("9 3 9", "9 1 9", "9 8 2");
    map.setBrook(2);
    String rows = Maps.rows(map);
    String all = Maps.all(map);
    for (int number = 0; number < 9; number++) {
      map.volumeWith(number % 3, number / 3, 999);
      map.endsWith(number % 3, number / 3, 0);
      map.volumeWith(number % 3, number / 3, 0);
      map.endsWith(number % 3, number / 3, 999);
      map.lookout(number / 3, 500);
      Due.is("28 to 31: the MAP and BROOK, asked of " + number, Maps.all(map), all);
    }
    Due.is("28 to 31: the HEIGHTS", Maps.rows(map), rows);
  }

  /** "A method that throws an exception changes nothing": not what was asked before, either. */
  private static void refusedChangesNothing() {
    WatershedMap map = Maps.of("9 3 9", "9 1 9", "9 8 2");
    Due.illegal(map, "2: reset(2, 17)", () -> map.reset(2, 17));
    Due.illegal(map, "2: reset(1, 2)", () -> map.reset(1, 2));
    Due.illegal(map, "3: set(0, 0, 1000)", () -> map.set(0, 0, 1000));
    Due.illegal(map, "4: tilt(1, 1, 101)", () -> map.tilt(1, 1, 101));
    Due.illegal(map, "5: hill(1, 1, 1, 501)", () -> map.hill(1, 1, 1, 501));
    Due.illegal(map, "5: hill(1, 1, 9, 500)", () -> map.hill(1, 1, 9, 500));
    Due.noField(map, "6: dig(0, 0, 3, 2, 0)", () -> map.dig(0, 0, 3, 2, 0));
    Due.illegal(map, "8: wear(51)", () -> map.wear(51));
    Due.illegal(map, "10: setBrook(101)", () -> map.setBrook(101));
    Due.is("the HEIGHTS afterwards", Maps.rows(map), "9 3 9 / 9 1 9 / 9 8 2");
    Due.is("BROOK afterwards", map.setBrook(1), 5);
  }

  /** "of several the smallest": all alike, and several in the middle. */
  private static void lookoutOfSeveral() {
    Due.is("30: on the smallest MAP", Maps.of("0 999", "999 0").lookout(0, 0), 0);
    Due.is("30: on the largest plain", Maps.flat(16, 16, 999).lookout(15, 500), 0);
    // from each peak all but the far side of the other one is seen
    Due.is("30: of two peaks", Maps.of("0 9 0 0 9 0", "0 0 0 0 0 0").lookout(0, 0), 1);
    Due.is("30: of two beside one another", Maps.of("0 0 9 9 0 0", "0 0 0 0 0 0").lookout(0, 0), 2);
  }

  /** The first x and the last one; an eye so high that all is seen. */
  private static void lookoutAtTheSides() {
    // over the walls of 9 one sees from 60 alone
    WatershedMap map = Maps.of("0 9 0 9 0 60", "0 9 0 9 0 60");
    Due.is("30: the last x", map.lookout(1, 0), 5);
    Due.is("30: with an eye 500 up", map.lookout(1, 500), 0);
    WatershedMap back = Maps.of("60 0 9 0 9 0", "60 0 9 0 9 0");
    Due.is("30: the first x", back.lookout(1, 0), 0);
  }

  /** "if y is not 0 to H - 1": the first and the last row of a MAP that is wider, and of one that is higher. */
  private static void lookoutRows() {
    int[][] sizes = {{2, 16}, {16, 2}, {16, 16}, {2, 2}};
    for (int[] size : sizes) {
      WatershedMap map = new WatershedMap();
      map.reset(size[0], size[1]);
      int last = size[1] - 1;
      Due.is("30: the first row", map.lookout(0, 0), 0);
      Due.is("30: the last row", map.lookout(last, 500), 0);
      Due.noField(map, "30: ahead of the first row", () -> map.lookout(-1, 0));
      Due.noField(map, "30: behind the last row", () -> map.lookout(last + 1, 0));
      Due.noField(map, "30: both wrong", () -> map.lookout(last + 1, 501));
      Due.illegal(map, "30: up alone wrong", () -> map.lookout(last, 501));
    }
  }

  private static void digestIs(String what, WatershedMap map, Model model) {
    Due.is("31: digest() of " + what, map.digest(), model.digest().longValue());
  }

  /** "for each of the following numbers v": all 48 of a MAP of 2 times 2, written out. */
  private static void digestOfTheSmallest() {
    int[] numbers = {
      2, 2, 0, 999, 1998, // map()
      2, 0, 2, 2, 0, 0, // basins(), pits(), mostRank(), longestStream(), lakes(), volume()
      2, 2, 0, 2, 2, 0, 2, 2, 0, // contour()
      0, 8, 1, 0, 1, 0, 0, // FIELD by FIELD
      999, 2, 1, 3, 1, 1, 999,
      999, 0, 1, 3, 1, 1, 999,
      0, 8, 3, 3, 2, 0, 0,
    };
    BigInteger d = BigInteger.valueOf(58078);
    for (int v : numbers) {
      d = d.multiply(BigInteger.valueOf(31)).add(BigInteger.valueOf(v));
    }
    WatershedMap map = Maps.of("0 999", "999 0");
    map.setBrook(1);
    Due.is("31: how many numbers", numbers.length, 5 + 6 + 9 + 4 * 7);
    Due.is("31: digest() of them", map.digest(), d.longValue());
  }

  /** MAPS of 16 times 16: a plain, a slope, a rough land with the greatest HEIGHTS. */
  private static void digestOfTheLargest() {
    int[][] tilts = {{0, 0, 0}, {10, 10, 0}, {100, 100, 100}, {-100, 100, 50}};
    for (int[] tilt : tilts) {
      WatershedMap map = new WatershedMap();
      Model model = new Model();
      map.reset(16, 16);
      model.reset(16, 16);
      map.tilt(tilt[0], tilt[1], tilt[2]);
      model.tilt(tilt[0], tilt[1], tilt[2]);
      digestIs("the largest MAP", map, model);
    }
  }

  /** "which wraps around as a 64-bit integer": below 0 and above it, though no number is below 0. */
  private static void digestWrapsAround() {
    int below = 0;
    for (int height = 0; height < 20; height++) {
      String row = height + " " + height;
      BigInteger exact = Model.of(row, row).digest();
      long digest = Maps.of(row, row).digest();
      Due.is("31: digest() of " + row + " is too long for 64 bits", exact.signum() > 0 && exact.bitLength() > 64, true);
      Due.is("31: digest() of " + row + " wraps around", digest, exact.longValue());
      below += digest < 0 ? 1 : 0;
    }
    Due.is("31: some are below 0, some are not", below > 0 && below < 20, true);
  }

  /** "contour() of 100, 200 and 400": peaks just as high, and one above. */
  private static void digestAtItsContours() {
    for (int height : new int[] {99, 100, 101, 200, 201, 400, 401}) {
      String middle = "0 " + height + " 0";
      digestIs("a peak of " + height, Maps.of("0 0 0", middle, "0 0 0"), Model.of("0 0 0", middle, "0 0 0"));
    }
    WatershedMap peak = Maps.of("0 0 0", "0 100 0", "0 0 0");
    long before = peak.digest();
    peak.set(1, 1, 101);
    Due.is("31: another one with a peak of 101", peak.digest() != before, true);
  }

  /** RANKS and STREAMS are in it: BROOK at its limits, and no STREAM. */
  private static void digestWithBrook() {
    WatershedMap map = Maps.of("0 50", "5 50", "9 50");
    Model model = Model.of("0 50", "5 50", "9 50");
    for (int brook : new int[] {1, 2, 6, 7, 100}) {
      map.setBrook(brook);
      model.setBrook(brook);
      digestIs("a MAP with BROOK " + brook, map, model);
    }
  }

  /** "at most 512 calls after it has been made": the last one answers as the others. */
  private static void theLastCall() {
    WatershedMap map = new WatershedMap();
    Due.is("2: the first call", map.reset(2, 2), 4);
    for (int call = 2; call <= 511; call++) {
      Due.is("3: call " + call, map.set(1, 1, call), call == 2 ? 0 : call - 1);
    }
    Due.is("12: the 512th call", map.height(1, 1), 511);
  }
}
