/** Makes maps from rows of HEIGHTS, and tells maps as such rows. */
final class Maps {
  private Maps() {
  }

  static WatershedMap of(String... rows) {
    WatershedMap map = new WatershedMap();
    map.reset(rows[0].split(" ").length, rows.length);
    for (int y = 0; y < rows.length; y++) {
      String[] heights = rows[y].split(" ");
      for (int x = 0; x < heights.length; x++) {
        map.set(x, y, Integer.parseInt(heights[x]));
      }
    }
    return map;
  }

  static WatershedMap flat(int w, int h, int height) {
    WatershedMap map = new WatershedMap();
    map.reset(w, h);
    for (int number = 0; number < w * h; number++) {
      map.set(number % w, number / w, height);
    }
    return map;
  }

  static String rows(WatershedMap map) {
    StringBuilder text = new StringBuilder();
    int w = map.map(0);
    int h = map.map(1);
    for (int y = 0; y < h; y++) {
      text.append(y == 0 ? "" : " / ");
      for (int x = 0; x < w; x++) {
        text.append(x == 0 ? "" : " ").append(map.height(x, y));
      }
    }
    return text.toString();
  }

  static int brook(WatershedMap map) {
    int brook = map.setBrook(1);
    map.setBrook(brook);
    return brook;
  }

  /** All that a call could have changed, in three calls: an object is promised for 512 alone. */
  static String all(WatershedMap map) {
    return "digest " + map.digest() + ", brook " + brook(map);
  }

  /** A MAP of the greatest size, 0 inside and 999 at the EDGE. */
  static WatershedMap basin() {
    WatershedMap map = new WatershedMap();
    map.reset(16, 16);
    for (int k = 0; k < 16; k++) {
      map.set(k, 0, 999);
      map.set(k, 15, 999);
      map.set(0, k, 999);
      map.set(15, k, 999);
    }
    return map;
  }

  /** A MAP of the greatest size, of which every other FIELD is so high, the others 0, that in the corner too. */
  static WatershedMap chessBoard(int height) {
    WatershedMap map = new WatershedMap();
    map.reset(16, 16);
    for (int number = 0; number < 256; number++) {
      if ((number % 16 + number / 16) % 2 == 1) {
        map.set(number % 16, number / 16, height);
      }
    }
    return map;
  }

  /** From which all water goes to FIELD 0. */
  static WatershedMap slope(int w, int h) {
    WatershedMap map = new WatershedMap();
    map.reset(w, h);
    map.tilt(10, 10, 0);
    return map;
  }
}
