import java.math.BigInteger;
import java.util.HashMap;
import java.util.HashSet;
import java.util.List;
import java.util.ArrayList;
import java.util.Map;
import java.util.Set;

/** The document word by word, without thought for speed; written apart from the class that it is compared with. */
final class Model {
  private static final int[][] STEPS = {{1, 0}, {1, 1}, {0, 1}, {-1, 1}, {-1, 0}, {-1, -1}, {0, -1}, {1, -1}};

  int[][] heights = new int[12][12];
  int brook = 5;

  static Model of(String... rows) {
    Model model = new Model();
    model.heights = new int[rows.length][];
    for (int y = 0; y < rows.length; y++) {
      String[] row = rows[y].split(" ");
      model.heights[y] = new int[row.length];
      for (int x = 0; x < row.length; x++) {
        model.heights[y][x] = Integer.parseInt(row[x]);
      }
    }
    return model;
  }

  int w() {
    return heights[0].length;
  }

  int h() {
    return heights.length;
  }

  private int at(int number) {
    return heights[number / w()][number % w()];
  }

  private int fields() {
    return w() * h();
  }

  private static int limited(int height) {
    return Math.max(0, Math.min(999, height));
  }

  /** The NUMBER of the NEIGHBOUR in a DIRECTION, or -1. */
  private int neighbour(int number, int d) {
    int x = number % w() + STEPS[d][0];
    int y = number / w() + STEPS[d][1];
    return x < 0 || y < 0 || x >= w() || y >= h() ? -1 : y * w() + x;
  }

  private boolean atEdge(int number) {
    int x = number % w();
    int y = number / w();
    return x == 0 || y == 0 || x == w() - 1 || y == h() - 1;
  }

  /** Takes new HEIGHTS; how many are other ones, or by how much they are more together. */
  private int[] become(int[][] after) {
    int others = 0;
    int more = 0;
    for (int y = 0; y < h(); y++) {
      for (int x = 0; x < w(); x++) {
        after[y][x] = limited(after[y][x]);
        others += after[y][x] == heights[y][x] ? 0 : 1;
        more += after[y][x] - heights[y][x];
      }
    }
    heights = after;
    return new int[] {others, more};
  }

  private int[][] copy() {
    int[][] copy = new int[h()][];
    for (int y = 0; y < h(); y++) {
      copy[y] = heights[y].clone();
    }
    return copy;
  }

  int reset(int w, int h) {
    heights = new int[h][w];
    return w * h;
  }

  int set(int x, int y, int height) {
    int before = heights[y][x];
    heights[y][x] = height;
    return before;
  }

  int tilt(int across, int along, int rough) {
    int[][] after = copy();
    for (int y = 0; y < h(); y++) {
      for (int x = 0; x < w(); x++) {
        after[y][x] += across * x + along * y + ((x * 7 + y * 13 + x * y * 5) % 17) * rough;
      }
    }
    become(after);
    return map(3);
  }

  int hill(int atX, int atY, int radius, int by) {
    int[][] after = copy();
    for (int y = 0; y < h(); y++) {
      for (int x = 0; x < w(); x++) {
        int dx = x - atX;
        int dy = y - atY;
        if (dx * dx + dy * dy <= radius * radius) {
          after[y][x] += by - (by * (dx * dx + dy * dy)) / (radius * radius + 1);
        }
      }
    }
    return become(after)[0];
  }

  /** The NUMBERS of the FIELDS on the line from one to another, both counted. */
  private List<Integer> line(int x, int y, int toX, int toY) {
    int dx = toX - x;
    int dy = toY - y;
    int n = Math.max(Math.abs(dx), Math.abs(dy));
    List<Integer> numbers = new ArrayList<>();
    for (int k = 0; k <= n; k++) {
      int alongX = n == 0 ? 0 : (int) Math.floor((2.0 * k * dx + n) / (2.0 * n));
      int alongY = n == 0 ? 0 : (int) Math.floor((2.0 * k * dy + n) / (2.0 * n));
      numbers.add((y + alongY) * w() + x + alongX);
    }
    return numbers;
  }

  int dig(int x, int y, int toX, int toY, int height) {
    int[][] after = copy();
    for (int number : line(x, y, toX, toY)) {
      after[number / w()][number % w()] = Math.min(at(number), height);
    }
    return become(after)[0];
  }

  int smooth() {
    int[][] after = copy();
    for (int number = 0; number < fields(); number++) {
      int sum = 4 * at(number);
      for (int d : new int[] {0, 2, 4, 6}) {
        int next = neighbour(number, d);
        sum += next < 0 ? at(number) : at(next);
      }
      after[number / w()][number % w()] = sum / 8;
    }
    return become(after)[0];
  }

  int wear(int by) {
    int[][] after = copy();
    for (int number = 0; number < fields(); number++) {
      int d = direction(number);
      if (d < 8) {
        int half = (at(number) - at(neighbour(number, d))) / 2;
        after[number / w()][number % w()] -= Math.min(half, by * flow(number) / 10);
      }
    }
    return -become(after)[1];
  }

  int fill() {
    int[][] after = copy();
    for (int number = 0; number < fields(); number++) {
      after[number / w()][number % w()] = level(number);
    }
    return become(after)[1];
  }

  int setBrook(int newBrook) {
    int before = brook;
    brook = newBrook;
    return before;
  }

  int map(int what) {
    int least = 999;
    int greatest = 0;
    int sum = 0;
    for (int number = 0; number < fields(); number++) {
      least = Math.min(least, at(number));
      greatest = Math.max(greatest, at(number));
      sum += at(number);
    }
    return new int[] {w(), h(), least, greatest, sum}[what];
  }

  int height(int x, int y) {
    return heights[y][x];
  }

  private int direction(int number) {
    int best = atEdge(number) ? 8 : 9;
    int most = 0;
    for (int d = 0; d < 8; d++) {
      int next = neighbour(number, d);
      int fall = next < 0 ? 0 : (at(number) - at(next)) * (d % 2 == 1 ? 7 : 10);
      if (fall > most) {
        most = fall;
        best = d;
      }
    }
    return best;
  }

  private int next(int number) {
    int d = direction(number);
    return d > 7 ? -1 : neighbour(number, d);
  }

  private List<Integer> sources(int number) {
    List<Integer> sources = new ArrayList<>();
    for (int d = 0; d < 8; d++) {
      int other = neighbour(number, d);
      if (other >= 0 && next(other) == number) {
        sources.add(other);
      }
    }
    return sources;
  }

  private int flow(int number) {
    int flow = 1;
    for (int source : sources(number)) {
      flow += flow(source);
    }
    return flow;
  }

  private int rank(int number) {
    if (flow(number) < brook) {
      return 0;
    }
    int best = 0;
    int times = 0;
    for (int source : sources(number)) {
      int rank = rank(source);
      times = rank > best ? 1 : rank == best ? times + 1 : times;
      best = Math.max(best, rank);
    }
    return best == 0 ? 1 : times > 1 ? best + 1 : best;
  }

  private int streamTo(int number) {
    if (flow(number) < brook) {
      return 0;
    }
    int longest = 0;
    for (int source : sources(number)) {
      longest = Math.max(longest, streamTo(source));
    }
    return longest + 1;
  }

  private int end(int number) {
    return next(number) < 0 ? number : end(next(number));
  }

  private int distance(int number) {
    return next(number) < 0 ? 0 : distance(next(number)) + 1;
  }

  int water(int x, int y, int what) {
    int number = y * w() + x;
    switch (what) {
      case 0:
        return direction(number);
      case 1:
        return flow(number);
      case 2:
        return end(number);
      case 3:
        return rank(number);
      default:
        return distance(number);
    }
  }

  int basins() {
    Set<Integer> ends = new HashSet<>();
    for (int number = 0; number < fields(); number++) {
      ends.add(end(number));
    }
    return ends.size();
  }

  int pits() {
    int pits = 0;
    for (int number = 0; number < fields(); number++) {
      pits += direction(number) == 9 ? 1 : 0;
    }
    return pits;
  }

  int mostRank() {
    int most = 0;
    for (int number = 0; number < fields(); number++) {
      most = Math.max(most, rank(number));
    }
    return most;
  }

  int longestStream() {
    int most = 0;
    for (int number = 0; number < fields(); number++) {
      most = Math.max(most, streamTo(number));
    }
    return most;
  }

  int level(int x, int y) {
    return level(y * w() + x);
  }

  private int level(int number) {
    if (atEdge(number)) {
      return at(number);
    }
    int level = at(number);
    while (!comesOut(number, level, new HashSet<>())) {
      level++;
    }
    return level;
  }

  private boolean comesOut(int number, int level, Set<Integer> been) {
    if (at(number) > level || !been.add(number)) {
      return false;
    }
    boolean out = atEdge(number);
    for (int d = 0; d < 8 && !out; d += 2) {
      out = comesOut(neighbour(number, d), level, been);
    }
    return out;
  }

  private Set<Integer> lakeOf(int number) {
    Set<Integer> lake = new HashSet<>();
    wade(number, lake);
    return lake;
  }

  private void wade(int number, Set<Integer> lake) {
    if (number >= 0 && !lake.contains(number) && level(number) > at(number)) {
      lake.add(number);
      for (int d = 0; d < 8; d += 2) {
        wade(neighbour(number, d), lake);
      }
    }
  }

  int lakes() {
    Set<Set<Integer>> lakes = new HashSet<>();
    for (int number = 0; number < fields(); number++) {
      lakes.add(lakeOf(number));
    }
    lakes.remove(new HashSet<Integer>());
    return lakes.size();
  }

  int lake(int x, int y, int what) {
    Set<Integer> lake = lakeOf(y * w() + x);
    return what == 0 ? lake.size() : holds(lake);
  }

  private int holds(Iterable<Integer> numbers) {
    int holds = 0;
    for (int number : numbers) {
      holds += level(number) - at(number);
    }
    return holds;
  }

  int volume() {
    Set<Integer> all = new HashSet<>();
    for (int number = 0; number < fields(); number++) {
      all.add(number);
    }
    return holds(all);
  }

  /** A POINT is told by the two corners that it is between. */
  private static String point(int one, int other) {
    return Math.min(one, other) + "-" + Math.max(one, other);
  }

  private List<String[]> pieces(int c) {
    List<String[]> pieces = new ArrayList<>();
    for (int y = 0; y + 1 < h(); y++) {
      for (int x = 0; x + 1 < w(); x++) {
        int first = y * w() + x;
        piecesIn(new int[] {first, first + 1, first + w() + 1, first + w()}, c, pieces);
      }
    }
    return pieces;
  }

  private void piecesIn(int[] corners, int c, List<String[]> pieces) {
    List<String> points = new ArrayList<>();
    int sum = 0;
    for (int k = 0; k < 4; k++) {
      int other = corners[(k + 1) % 4];
      sum += at(other);
      if (at(corners[k]) > c != at(other) > c) {
        points.add(point(corners[k], other));
      }
    }
    if (points.size() == 2) {
      pieces.add(new String[] {points.get(0), points.get(1)});
    }
    for (int k = 0; k < 4 && points.size() == 4; k++) {
      boolean high = at(corners[k]) > c;
      if (sum > 4 * c ? !high : high) {
        pieces.add(new String[] {point(corners[k], corners[(k + 1) % 4]), point(corners[k], corners[(k + 3) % 4])});
      }
    }
  }

  int contour(int c, int what) {
    List<String[]> pieces = pieces(c);
    Map<String, Integer> times = new HashMap<>();
    for (String[] piece : pieces) {
      times.merge(piece[0], 1, Integer::sum);
      times.merge(piece[1], 1, Integer::sum);
    }
    int lines = 0;
    int closed = 0;
    int all = pieces.size();
    while (!pieces.isEmpty()) {
      Set<String> line = takeLine(pieces);
      lines++;
      closed += line.stream().allMatch(point -> times.get(point) == 2) ? 1 : 0;
    }
    return new int[] {all, lines, closed}[what];
  }

  private static Set<String> takeLine(List<String[]> pieces) {
    Set<String> line = new HashSet<>(List.of(pieces.get(0)));
    boolean more = true;
    while (more) {
      more = false;
      for (int k = pieces.size() - 1; k >= 0; k--) {
        if (line.contains(pieces.get(k)[0]) || line.contains(pieces.get(k)[1])) {
          line.addAll(List.of(pieces.remove(k)));
          more = true;
        }
      }
    }
    return line;
  }

  boolean sees(int x, int y, int up, int toX, int toY) {
    List<Integer> line = line(x, y, toX, toY);
    int n = line.size() - 1;
    int e = heights[y][x] + up;
    for (int k = 1; k < n; k++) {
      if (at(line.get(k)) * n > e * (n - k) + heights[toY][toX] * k) {
        return false;
      }
    }
    return true;
  }

  int seen(int x, int y, int up) {
    int seen = 0;
    for (int number = 0; number < fields(); number++) {
      seen += sees(x, y, up, number % w(), number / w()) ? 1 : 0;
    }
    return seen;
  }

  private int step(int number, int d) {
    return (d % 2 == 1 ? 14 : 10) + Math.abs(at(number) - at(neighbour(number, d)));
  }

  /** What it takes to all FIELDS: made better until nothing gets better. */
  private int[] taken(int from) {
    int[] taken = new int[fields()];
    java.util.Arrays.fill(taken, 1_000_000_000);
    taken[from] = 0;
    boolean better = true;
    while (better) {
      better = false;
      for (int number = 0; number < fields(); number++) {
        for (int d = 0; d < 8; d++) {
          int next = neighbour(number, d);
          if (next >= 0 && taken[number] + step(number, d) < taken[next]) {
            taken[next] = taken[number] + step(number, d);
            better = true;
          }
        }
      }
    }
    return taken;
  }

  int takes(int x, int y, int toX, int toY) {
    return taken(y * w() + x)[toY * w() + toX];
  }

  int way(int x, int y, int toX, int toY, int back) {
    int[] taken = taken(y * w() + x);
    List<Integer> way = new ArrayList<>();
    way.add(toY * w() + toX);
    while (way.get(way.size() - 1) != y * w() + x) {
      int last = way.get(way.size() - 1);
      int ahead = Integer.MAX_VALUE;
      for (int d = 0; d < 8; d++) {
        int other = neighbour(last, d);
        if (other >= 0 && taken[other] + step(last, d) == taken[last]) {
          ahead = Math.min(ahead, other);
        }
      }
      way.add(ahead);
    }
    return back < way.size() ? way.get(back) : -1;
  }

  double steepness() {
    double sum = 0;
    for (int number = 0; number < fields(); number++) {
      int most = 0;
      for (int d = 0; d < 8; d++) {
        int next = neighbour(number, d);
        most = next < 0 ? most : Math.max(most, Math.abs(at(number) - at(next)));
      }
      sum += most;
    }
    return sum / fields();
  }

  private Model with(int x, int y, int height) {
    Model other = new Model();
    other.heights = copy();
    other.heights[y][x] = height;
    other.brook = brook;
    return other;
  }

  int volumeWith(int x, int y, int height) {
    return with(x, y, height).volume();
  }

  int endsWith(int x, int y, int height) {
    Model other = with(x, y, height);
    int others = 0;
    for (int number = 0; number < fields(); number++) {
      others += end(number) == other.end(number) ? 0 : 1;
    }
    return others;
  }

  int lookout(int y, int up) {
    int best = 0;
    for (int x = 1; x < w(); x++) {
      best = seen(x, y, up) > seen(best, y, up) ? x : best;
    }
    return best;
  }

  /** The checksum as it would be if it did not wrap around. */
  BigInteger digest() {
    List<Integer> numbers = new ArrayList<>();
    for (int what = 0; what <= 4; what++) {
      numbers.add(map(what));
    }
    numbers.addAll(List.of(basins(), pits(), mostRank(), longestStream(), lakes(), volume()));
    for (int c : new int[] {100, 200, 400}) {
      for (int what = 0; what <= 2; what++) {
        numbers.add(contour(c, what));
      }
    }
    for (int number = 0; number < fields(); number++) {
      numbers.add(at(number));
      for (int what = 0; what <= 4; what++) {
        numbers.add(water(number % w(), number / w(), what));
      }
      numbers.add(level(number));
    }
    BigInteger d = BigInteger.valueOf(58078);
    for (int v : numbers) {
      d = d.multiply(BigInteger.valueOf(31)).add(BigInteger.valueOf(v));
    }
    return d;
  }
}
