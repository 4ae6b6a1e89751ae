import java.util.Random;

/** Long runs of calls, the same ones each time; each answer is compared with the model's. */
final class ModelTest {
  private static final int RUNS = 150;
  private static final int CALLS = 200;

  private final WatershedMap map = new WatershedMap();
  private final Model model = new Model();
  private final Random random;
  private final int run;

  private ModelTest(int run) {
    this.run = run;
    this.random = new Random(run);
  }

  public static void main(String[] args) {
    for (int run = 0; run < RUNS; run++) {
      new ModelTest(run).go();
    }
    Due.end();
  }

  private void go() {
    int w = side();
    int h = side();
    same("reset", map.reset(w, h), model.reset(w, h));
    for (int call = 0; call < CALLS; call++) {
      int kind = random.nextInt(run % 2 == 0 ? 40 : 30);
      if (kind < 12) {
        change(kind);
      } else {
        ask(kind % 16);
      }
    }
    for (int number = 0; number < model.w() * model.h(); number++) {
      allOf(number % model.w(), number / model.w());
    }
  }

  private void same(String call, long got, long want) {
    Due.is("run " + run + ": " + call, got, want);
  }

  private int from(int least, int most) {
    return least + random.nextInt(most - least + 1);
  }

  /** The first runs have the smallest and the largest MAPS. */
  private int side() {
    return run < 2 ? 2 : run < 8 ? 16 : from(2, run % 3 == 0 ? 16 : 9);
  }

  private int x() {
    return random.nextInt(model.w());
  }

  private int y() {
    return random.nextInt(model.h());
  }

  /** Often low ones and few kinds, so that many are alike. */
  private int someHeight() {
    int[] heights = {from(0, 999), from(0, 9), from(0, 3) * 100, from(995, 999)};
    return heights[random.nextInt(heights.length)];
  }

  private void change(int kind) {
    int x = x();
    int y = y();
    int toX = x();
    int toY = y();
    int height = someHeight();
    switch (kind) {
      case 0, 1, 2, 3 -> same("set", map.set(x, y, height), model.set(x, y, height));
      case 4 -> tilt();
      case 5, 6 -> hill(x, y);
      case 7 -> same("dig", map.dig(x, y, toX, toY, height), model.dig(x, y, toX, toY, height));
      case 8 -> same("smooth", map.smooth(), model.smooth());
      case 9 -> wear();
      case 10 -> fillSometimes();
      default -> brook();
    }
    same("the sum", map.map(4), model.map(4));
  }

  private void tilt() {
    int across = from(-100, 100);
    int along = from(-100, 100);
    int rough = from(-100, 100);
    same("tilt", map.tilt(across, along, rough), model.tilt(across, along, rough));
  }

  private void hill(int x, int y) {
    int radius = from(0, 8);
    int by = from(-500, 500);
    same("hill", map.hill(x, y, radius, by), model.hill(x, y, radius, by));
  }

  private void wear() {
    int by = from(1, 50);
    same("wear", map.wear(by), model.wear(by));
  }

  private void fillSometimes() {
    if (random.nextInt(4) == 0) {
      same("fill", map.fill(), model.fill());
    }
  }

  private void brook() {
    int brook = random.nextInt(4) == 0 ? from(1, 100) : from(1, 6);
    same("setBrook", map.setBrook(brook), model.setBrook(brook));
  }

  private void ask(int kind) {
    int x = x();
    int y = y();
    int toX = x();
    int toY = y();
    int up = random.nextInt(2) * from(0, 500);
    int height = someHeight();
    switch (kind) {
      case 0 -> same("basins", map.basins(), model.basins());
      case 1 -> same("pits", map.pits(), model.pits());
      case 2 -> same("mostRank", map.mostRank(), model.mostRank());
      case 3 -> same("longestStream", map.longestStream(), model.longestStream());
      case 4 -> same("lakes", map.lakes(), model.lakes());
      case 5 -> same("volume", map.volume(), model.volume());
      case 6, 7 -> contours(height);
      case 8 -> same("sees", map.sees(x, y, up, toX, toY) ? 1 : 0, model.sees(x, y, up, toX, toY) ? 1 : 0);
      case 9 -> same("seen", map.seen(x, y, up), model.seen(x, y, up));
      case 10 -> same("takes", map.takes(x, y, toX, toY), model.takes(x, y, toX, toY));
      case 11 -> way(x, y, toX, toY);
      case 12 -> Due.is("run " + run + ": steepness", map.steepness(), model.steepness());
      case 13 -> same("volumeWith", map.volumeWith(x, y, height), model.volumeWith(x, y, height));
      case 14 -> same("endsWith", map.endsWith(x, y, height), model.endsWith(x, y, height));
      default -> same("lookout", map.lookout(y, up), model.lookout(y, up));
    }
  }

  private void contours(int c) {
    for (int what = 0; what <= 2; what++) {
      same("contour(" + c + ", " + what + ")", map.contour(c, what), model.contour(c, what));
    }
  }

  private void way(int x, int y, int toX, int toY) {
    for (int back = 0; back <= 9; back++) {
      same("way", map.way(x, y, toX, toY, back), model.way(x, y, toX, toY, back));
    }
  }

  private void allOf(int x, int y) {
    same("height", map.height(x, y), model.heights[y][x]);
    same("level", map.level(x, y), model.level(y * model.w() + x));
    for (int what = 0; what <= 4; what++) {
      same("water " + what, map.water(x, y, what), model.water(x, y, what));
    }
    same("lake 0", map.lake(x, y, 0), model.lake(x, y, 0));
    same("lake 1", map.lake(x, y, 1), model.lake(x, y, 1));
  }
}
