import java.util.Random;

/** Long runs of calls, the same ones each time; each answer is compared with the model's. */
final class ModelTest {
  private static final int RUNS = 400;
  /** No more is promised of an object. */
  private static final int CALLS = 512;

  private final WatershedMap map = new WatershedMap();
  private final Model model = new Model();
  private final Random random;
  private final int run;
  private int calls;

  private ModelTest(int run) {
    this.run = run;
    this.random = new Random(run);
  }

  public static void main(String[] args) {
    for (int run = 0; run < RUNS; run++) {
      new ModelTest(run).go();
    }
    Due.end();
  }

  private void go() {
    int w = side();
    int h = side();
    same("reset", map.reset(w, h), model.reset(w, h));
    while (calls <= CALLS - 3) {
      int kind = random.nextInt(run % 2 == 0 ? 48 : 36);
      if (kind < 12) {
        change(kind);
      } else {
        ask(kind % 24);
      }
    }
    while (calls < CALLS - 1) {
      same("map(4)", map.map(4), model.map(4));
    }
    same("the 512th call, digest()", map.digest(), model.digest().longValue());
    Due.is("run " + run + " made calls", calls, CALLS);
  }

  private void same(String call, long got, long want) {
    calls++;
    Due.is("run " + run + ", call " + calls + ": " + call, got, want);
  }

  private int from(int least, int most) {
    return least + random.nextInt(most - least + 1);
  }

  /** The first runs have the smallest and the largest MAPS. */
  private int side() {
    return run < 2 ? 2 : run < 8 ? 16 : from(2, run % 3 == 0 ? 16 : 9);
  }

  private int x() {
    return place(model.w());
  }

  private int y() {
    return place(model.h());
  }

  /** Often at the EDGE. */
  private int place(int side) {
    int[] places = {0, side - 1, random.nextInt(side), random.nextInt(side)};
    return places[random.nextInt(places.length)];
  }

  /** Often low ones and few kinds, so that many are alike. */
  private int someHeight() {
    int[] heights = {from(0, 999), from(0, 9), from(0, 3) * 100, from(995, 999)};
    return heights[random.nextInt(heights.length)];
  }

  private void change(int kind) {
    int x = x();
    int y = y();
    int toX = x();
    int toY = y();
    int height = someHeight();
    switch (kind) {
      case 0, 1, 2, 3 -> same("set", map.set(x, y, height), model.set(x, y, height));
      case 4 -> tilt();
      case 5, 6 -> hill(x, y);
      case 7 -> same("dig", map.dig(x, y, toX, toY, height), model.dig(x, y, toX, toY, height));
      case 8 -> same("smooth", map.smooth(), model.smooth());
      case 9 -> wear();
      case 10 -> fillSometimes();
      default -> brook();
    }
    same("the sum", map.map(4), model.map(4));
  }

  private void tilt() {
    int across = from(-100, 100);
    int along = from(-100, 100);
    int rough = from(-100, 100);
    same("tilt", map.tilt(across, along, rough), model.tilt(across, along, rough));
  }

  private void hill(int x, int y) {
    int radius = from(0, 8);
    int by = from(-500, 500);
    same("hill", map.hill(x, y, radius, by), model.hill(x, y, radius, by));
  }

  private void wear() {
    int by = from(1, 50);
    same("wear", map.wear(by), model.wear(by));
  }

  private void fillSometimes() {
    if (random.nextInt(4) == 0) {
      same("fill", map.fill(), model.fill());
    }
  }

  private void brook() {
    int brook = random.nextInt(4) == 0 ? from(1, 100) : from(1, 6);
    same("setBrook", map.setBrook(brook), model.setBrook(brook));
  }

  private void ask(int kind) {
    int x = x();
    int y = y();
    int toX = x();
    int toY = y();
    int up = random.nextInt(2) * from(0, 500);
    int height = someHeight();
    switch (kind) {
      case 0 -> same("basins", map.basins(), model.basins());
      case 1 -> same("pits", map.pits(), model.pits());
      case 2 -> same("mostRank", map.mostRank(), model.mostRank());
      case 3 -> same("longestStream", map.longestStream(), model.longestStream());
      case 4 -> same("lakes", map.lakes(), model.lakes());
      case 5 -> same("volume", map.volume(), model.volume());
      case 6, 7 -> contour(height, random.nextInt(3));
      case 8 -> same("sees", map.sees(x, y, up, toX, toY) ? 1 : 0, model.sees(x, y, up, toX, toY) ? 1 : 0);
      case 9 -> same("seen", map.seen(x, y, up), model.seen(x, y, up));
      case 10 -> same("takes", map.takes(x, y, toX, toY), model.takes(x, y, toX, toY));
      case 11 -> way(x, y, toX, toY, random.nextInt(10));
      case 12 -> steepness();
      case 13 -> same("volumeWith", map.volumeWith(x, y, height), model.volumeWith(x, y, height));
      case 14 -> same("endsWith", map.endsWith(x, y, height), model.endsWith(x, y, height));
      case 15 -> same("lookout", map.lookout(y, up), model.lookout(y, up));
      case 16 -> same("height", map.height(x, y), model.height(x, y));
      case 17 -> same("level", map.level(x, y), model.level(x, y));
      case 18 -> lake(x, y, random.nextInt(2));
      default -> water(x, y, kind - 19);
    }
  }

  private void contour(int c, int what) {
    same("contour(" + c + ", " + what + ")", map.contour(c, what), model.contour(c, what));
  }

  private void way(int x, int y, int toX, int toY, int back) {
    same("way " + back, map.way(x, y, toX, toY, back), model.way(x, y, toX, toY, back));
  }

  private void steepness() {
    calls++;
    Due.is("run " + run + ", call " + calls + ": steepness", map.steepness(), model.steepness());
  }

  private void lake(int x, int y, int what) {
    same("lake " + what, map.lake(x, y, what), model.lake(x, y, what));
  }

  private void water(int x, int y, int what) {
    same("water " + what, map.water(x, y, what), model.water(x, y, what));
  }
}
