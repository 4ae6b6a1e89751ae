/** Promises 28 to 31: what would be, and the checksum. */
final class WhatIfTest {
  private static final String[] BOWL = {"9 9 9 9 9", "9 1 1 1 9", "9 1 5 1 7", "9 1 1 1 9", "9 9 9 9 3"};
  private static final String[] FUNNEL = {"9 9 9", "9 5 9", "9 0 9"};
  private static final int LEAST = Integer.MIN_VALUE;
  private static final int MOST = Integer.MAX_VALUE;

  public static void main(String[] args) {
    volumeWith();
    endsWith();
    nothingIsChanged();
    wrongHeights();
    lookout();
    wrongLookouts();
    digest();
    Due.end();
  }

  private static void volumeWith() {
    WatershedMap map = Maps.of(BOWL);
    Due.is("28: with a higher outlet", map.volumeWith(4, 2, 9), 68);
    Due.is("28: with a lower outlet", map.volumeWith(4, 2, 0), 0);
    Due.is("28: with the outlet as it is", map.volumeWith(4, 2, 7), 50);
    Due.is("28: without the island", map.volumeWith(2, 2, 0), 55);
    Due.is("28: with a peak", map.volumeWith(2, 2, 999), 48);
    Due.is("28: volume() is as before", map.volume(), 50);
  }

  private static void endsWith() {
    WatershedMap map = Maps.of(FUNNEL);
    Due.is("29: with a PIT", map.endsWith(1, 1, 0), 6);
    Due.is("29: with the HEIGHT as it is", map.endsWith(1, 1, 5), 0);
    Due.is("29: with a higher END", map.endsWith(1, 2, 999), 9);
    Due.is("29: another way to the same END", map.endsWith(1, 1, 1), 0);
    Due.is("29: on a plain", Maps.flat(4, 4, 9).endsWith(1, 1, 0), 8);
  }

  private static void nothingIsChanged() {
    WatershedMap map = Maps.of(BOWL);
    map.setBrook(3);
    String before = Maps.all(map);
    long digest = map.digest();
    map.volumeWith(4, 2, 0);
    map.endsWith(1, 1, 999);
    map.lookout(2, 100);
    Due.is("31: digest() afterwards", map.digest(), digest);
    Due.is("28 to 31: the MAP afterwards", Maps.all(map), before);
  }

  private static void wrongHeights() {
    WatershedMap map = Maps.of(FUNNEL);
    for (int wrong : new int[] {-1, 1000, LEAST, MOST}) {
      Due.illegal(map, "28: volumeWith(0, 0, " + wrong + ")", () -> map.volumeWith(0, 0, wrong));
      Due.illegal(map, "29: endsWith(0, 0, " + wrong + ")", () -> map.endsWith(0, 0, wrong));
    }
    for (int wrong : new int[] {-1, 3, LEAST, MOST}) {
      Due.noField(map, "28: volumeWith(" + wrong + ", 0, 1)", () -> map.volumeWith(wrong, 0, 1));
      Due.noField(map, "28: volumeWith(0, " + wrong + ", -1)", () -> map.volumeWith(0, wrong, -1));
      Due.noField(map, "29: endsWith(" + wrong + ", 0, 1)", () -> map.endsWith(wrong, 0, 1));
      Due.noField(map, "29: endsWith(0, " + wrong + ", -1)", () -> map.endsWith(0, wrong, -1));
    }
  }

  private static void lookout() {
    Due.is("30: the smallest of several", Maps.flat(5, 3, 9).lookout(1, 0), 0);
    WatershedMap wall = Maps.of("0 0 100 0 0", "0 0 100 0 0");
    Due.is("30: from the wall", wall.lookout(0, 0), 2);
    Due.is("30: over the wall", wall.lookout(1, 500), 0);
    WatershedMap two = Maps.of("0 0 0 100 0 100", "0 0 0 0 0 0");
    Due.is("30: the left one of two peaks", two.lookout(0, 0), 3);
    two.set(4, 1, 200);
    Due.is("30: another y", two.lookout(1, 0), 4);
  }

  private static void wrongLookouts() {
    WatershedMap map = Maps.of("1 2 3", "4 5 6");
    for (int wrong : new int[] {-1, 2, LEAST, MOST}) {
      Due.noField(map, "30: lookout(" + wrong + ", 0)", () -> map.lookout(wrong, 0));
      Due.noField(map, "30: lookout(" + wrong + ", 501)", () -> map.lookout(wrong, 501));
    }
    for (int wrong : new int[] {-1, 501, LEAST, MOST}) {
      Due.illegal(map, "30: lookout(0, " + wrong + ")", () -> map.lookout(0, wrong));
    }
  }

  private static void digest() {
    digestIs("a bowl", BOWL);
    digestIs("a funnel", FUNNEL);
    digestIs("a plain", "0 0", "0 0");
    digestIs("LINES at its very numbers", "99 100 101 199", "200 201 399 400", "401 99 200 400");
    WatershedMap map = new WatershedMap();
    Model model = new Model();
    Due.is("31: digest() of a new object", map.digest(), model.digest().longValue());
    Due.is("4: tilt(20, 15, 8)", map.tilt(20, 15, 8), model.tilt(20, 15, 8));
    Due.is("5: hill(6, 6, 4, 200)", map.hill(6, 6, 4, 200), model.hill(6, 6, 4, 200));
    Due.is("5: hill(3, 8, 3, -250)", map.hill(3, 8, 3, -250), model.hill(3, 8, 3, -250));
    long before = map.digest();
    Due.is("31: digest() of a land", before, model.digest().longValue());
    Due.is("10: setBrook(2)", map.setBrook(2), model.setBrook(2));
    Due.is("31: digest() with another BROOK", map.digest(), model.digest().longValue());
    Due.is("31: that is another one", map.digest() != before, true);
  }

  private static void digestIs(String what, String... rows) {
    Due.is("31: digest() of " + what, Maps.of(rows).digest(), Model.of(rows).digest().longValue());
  }
}
