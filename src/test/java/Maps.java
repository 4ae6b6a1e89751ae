/** Makes maps from rows of HEIGHTS, and tells maps as such rows. */
final class Maps {
  private Maps() {
  }

  static WatershedMap of(String... rows) {
    WatershedMap map = new WatershedMap();
    map.reset(rows[0].split(" ").length, rows.length);
    for (int y = 0; y < rows.length; y++) {
      String[] heights = rows[y].split(" ");
      for (int x = 0; x < heights.length; x++) {
        map.set(x, y, Integer.parseInt(heights[x]));
      }
    }
    return map;
  }

  static WatershedMap flat(int w, int h, int height) {
    WatershedMap map = new WatershedMap();
    map.reset(w, h);
    for (int number = 0; number < w * h; number++) {
      map.set(number % w, number / w, height);
    }
    return map;
  }

  static String rows(WatershedMap map) {
    StringBuilder text = new StringBuilder();
    for (int y = 0; y < map.map(1); y++) {
      text.append(y == 0 ? "" : " / ");
      for (int x = 0; x < map.map(0); x++) {
        text.append(x == 0 ? "" : " ").append(map.height(x, y));
      }
    }
    return text.toString();
  }

  static int brook(WatershedMap map) {
    int brook = map.setBrook(1);
    map.setBrook(brook);
    return brook;
  }

  static String all(WatershedMap map) {
    return rows(map) + ", brook " + brook(map);
  }
}
