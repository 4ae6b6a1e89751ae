import java.util.Arrays;

/** A workshop for land: its heights, its water, its hollows and contours, and what one sees and goes over. */
public final class WatershedMap {
  private static final int LEAST_SIDE = 2;
  private static final int MOST_SIDE = 16;
  private static final int FIRST_SIDE = 12;
  private static final int MOST_FIELDS = 256;
  private static final int MOST_SIDES_OF_SQUARES = 512;
  private static final int TOP = 999;
  private static final int MOST_UP = 500;
  private static final int FIRST_BROOK = 5;
  private static final int NONE = -1;
  private static final int FAR = 1000000;
  private static final int DIRECTIONS = 8;
  private static final int OUT = 8;
  private static final int PIT = 9;
  private static final int[] STEP_X = {1, 1, 0, -1, -1, -1, 0, 1};
  private static final int[] STEP_Y = {0, 1, 1, 1, 0, -1, -1, -1};
  private static final int[] DIGEST_CONTOURS = {100, 200, 400};
  private static final long DIGEST_START = 58078L;

  private final Land land;
  private final Streams streams;
  private final Hollows hollows;
  private final Contours contours;
  private final Sight sight;
  private final Ways ways;
  private final int[] endsBefore;
  private int brook;

  public WatershedMap() {
    land = new Land();
    streams = new Streams(land);
    hollows = new Hollows(land);
    contours = new Contours(land);
    sight = new Sight(land);
    ways = new Ways(land);
    endsBefore = new int[MOST_FIELDS];
    brook = FIRST_BROOK;
    land.layOut(FIRST_SIDE, FIRST_SIDE);
  }

  // ---- land

  public int reset(int w, int h) throws IllegalArgumentException {
    checkRange(w, LEAST_SIDE, MOST_SIDE);
    checkRange(h, LEAST_SIDE, MOST_SIDE);
    land.layOut(w, h);
    return land.fields;
  }

  public int set(int x, int y, int height) throws IndexOutOfBoundsException, IllegalArgumentException {
    checkField(x, y);
    checkRange(height, 0, TOP);
    return land.exchange(land.numberOf(x, y), height);
  }

  public int tilt(int across, int along, int rough) throws IllegalArgumentException {
    checkRange(across, -100, 100);
    checkRange(along, -100, 100);
    checkRange(rough, -100, 100);
    land.slope(across, along, rough);
    return land.greatest();
  }

  public int hill(int x, int y, int radius, int by) throws IndexOutOfBoundsException, IllegalArgumentException {
    checkField(x, y);
    checkRange(radius, 0, 8);
    checkRange(by, -500, 500);
    return land.raise(x, y, radius, by);
  }

  public int dig(int x, int y, int toX, int toY, int height) throws IndexOutOfBoundsException, IllegalArgumentException {
    checkField(x, y);
    checkField(toX, toY);
    checkRange(height, 0, TOP);
    return land.cutDown(x, y, toX, toY, height);
  }

  public int smooth() {
    return land.soften();
  }

  public int wear(int by) throws IllegalArgumentException {
    checkRange(by, 1, 50);
    streams.run(brook);
    return land.washAway(streams, by);
  }

  public int fill() {
    hollows.find();
    return land.raiseTo(hollows.levels);
  }

  public int setBrook(int brook) throws IllegalArgumentException {
    checkRange(brook, 1, 100);
    int before = this.brook;
    this.brook = brook;
    return before;
  }

  public int map(int what) throws IllegalArgumentException {
    checkRange(what, 0, 4);
    return land.told(what);
  }

  public int height(int x, int y) throws IndexOutOfBoundsException {
    checkField(x, y);
    return land.heights[land.numberOf(x, y)];
  }

  // ---- water

  public int water(int x, int y, int what) throws IndexOutOfBoundsException, IllegalArgumentException {
    checkField(x, y);
    checkRange(what, 0, 4);
    streams.run(brook);
    return streams.told(land.numberOf(x, y), what);
  }

  public int basins() {
    streams.run(brook);
    return streams.count(OUT) + streams.count(PIT);
  }

  public int pits() {
    streams.run(brook);
    return streams.count(PIT);
  }

  public int mostRank() {
    streams.run(brook);
    return streams.greatestOf(streams.ranks);
  }

  public int longestStream() {
    streams.run(brook);
    return streams.greatestOf(streams.lengths);
  }

  // ---- hollows and contours

  public int level(int x, int y) throws IndexOutOfBoundsException {
    checkField(x, y);
    hollows.find();
    return hollows.levels[land.numberOf(x, y)];
  }

  public int lakes() {
    hollows.find();
    return hollows.lakeCount;
  }

  public int lake(int x, int y, int what) throws IndexOutOfBoundsException, IllegalArgumentException {
    checkField(x, y);
    checkRange(what, 0, 1);
    hollows.find();
    int number = land.numberOf(x, y);
    return what == 0 ? hollows.sizeOfLake(number) : hollows.contentOfLake(number);
  }

  public int volume() {
    hollows.find();
    return hollows.content();
  }

  public int contour(int c, int what) throws IllegalArgumentException {
    checkRange(c, 0, TOP);
    checkRange(what, 0, 2);
    contours.draw(c);
    return contours.told(what);
  }

  // ---- sight and ways

  public boolean sees(int x, int y, int up, int toX, int toY) throws IndexOutOfBoundsException, IllegalArgumentException {
    checkField(x, y);
    checkField(toX, toY);
    checkRange(up, 0, MOST_UP);
    return sight.reaches(x, y, up, toX, toY);
  }

  public int seen(int x, int y, int up) throws IndexOutOfBoundsException, IllegalArgumentException {
    checkField(x, y);
    checkRange(up, 0, MOST_UP);
    return sight.countFrom(x, y, up);
  }

  public int takes(int x, int y, int toX, int toY) throws IndexOutOfBoundsException {
    checkField(x, y);
    checkField(toX, toY);
    ways.spreadFrom(land.numberOf(x, y));
    return ways.least[land.numberOf(toX, toY)];
  }

  public int way(int x, int y, int toX, int toY, int back) throws IndexOutOfBoundsException, IllegalArgumentException {
    checkField(x, y);
    checkField(toX, toY);
    if (back < 0) {
      throw new IllegalArgumentException("back is below 0");
    }
    int from = land.numberOf(x, y);
    ways.spreadFrom(from);
    return ways.goBack(from, land.numberOf(toX, toY), back);
  }

  public double steepness() {
    return land.meanSteepness();
  }

  // ---- what would be (nothing is changed)

  public int volumeWith(int x, int y, int height) throws IndexOutOfBoundsException, IllegalArgumentException {
    checkField(x, y);
    checkRange(height, 0, TOP);
    int number = land.numberOf(x, y);
    int before = land.exchange(number, height);
    hollows.find();
    int content = hollows.content();
    land.exchange(number, before);
    return content;
  }

  public int endsWith(int x, int y, int height) throws IndexOutOfBoundsException, IllegalArgumentException {
    checkField(x, y);
    checkRange(height, 0, TOP);
    int number = land.numberOf(x, y);
    streams.run(brook);
    System.arraycopy(streams.ends, 0, endsBefore, 0, MOST_FIELDS);
    int before = land.exchange(number, height);
    streams.run(brook);
    land.exchange(number, before);
    int others = 0;
    for (int i = 0; i < land.fields; i++) {
      if (streams.ends[i] != endsBefore[i]) {
        others++;
      }
    }
    return others;
  }

  public int lookout(int y, int up) throws IndexOutOfBoundsException, IllegalArgumentException {
    checkField(0, y);
    checkRange(up, 0, MOST_UP);
    int best = 0;
    int most = 0;
    for (int x = 0; x < land.w; x++) {
      int count = sight.countFrom(x, y, up);
      if (count > most) {
        most = count;
        best = x;
      }
    }
    return best;
  }

  public long digest() {
    streams.run(brook);
    hollows.find();
    long d = digestOfMap(DIGEST_START);
    for (int k = 0; k < DIGEST_CONTOURS.length; k++) {
      contours.draw(DIGEST_CONTOURS[k]);
      for (int what = 0; what <= 2; what++) {
        d = d * 31 + contours.told(what);
      }
    }
    return digestOfFields(d);
  }

  private long digestOfMap(long start) {
    long d = start;
    for (int what = 0; what <= 4; what++) {
      d = d * 31 + land.told(what);
    }
    d = d * 31 + streams.count(OUT) + streams.count(PIT);
    d = d * 31 + streams.count(PIT);
    d = d * 31 + streams.greatestOf(streams.ranks);
    d = d * 31 + streams.greatestOf(streams.lengths);
    d = d * 31 + hollows.lakeCount;
    return d * 31 + hollows.content();
  }

  private long digestOfFields(long start) {
    long d = start;
    for (int i = 0; i < land.fields; i++) {
      d = d * 31 + land.heights[i];
      for (int what = 0; what <= 4; what++) {
        d = d * 31 + streams.told(i, what);
      }
      d = d * 31 + hollows.levels[i];
    }
    return d;
  }

  private void checkField(int x, int y) {
    if (!land.has(x, y)) {
      throw new IndexOutOfBoundsException("there is no such FIELD");
    }
  }

  private static void checkRange(int value, int least, int most) {
    if (value < least || value > most) {
      throw new IllegalArgumentException("a number is out of its range");
    }
  }

  /** The FIELDS, their HEIGHTS and who is whose NEIGHBOUR; all FIELDS are told by their NUMBERS. */
  private static final class Land {
    final int[] heights = new int[MOST_FIELDS];
    private final int[] after = new int[MOST_FIELDS];
    private final int[] neighbours = new int[MOST_FIELDS * DIRECTIONS];
    int w;
    int h;
    int fields;

    void layOut(int newW, int newH) {
      w = newW;
      h = newH;
      fields = newW * newH;
      Arrays.fill(heights, 0);
      for (int y = 0; y < h; y++) {
        for (int x = 0; x < w; x++) {
          findNeighbours(x, y);
        }
      }
    }

    private void findNeighbours(int x, int y) {
      for (int d = 0; d < DIRECTIONS; d++) {
        int nextX = x + STEP_X[d];
        int nextY = y + STEP_Y[d];
        neighbours[numberOf(x, y) * DIRECTIONS + d] = has(nextX, nextY) ? numberOf(nextX, nextY) : NONE;
      }
    }

    boolean has(int x, int y) {
      return x >= 0 && x < w && y >= 0 && y < h;
    }

    int numberOf(int x, int y) {
      return y * w + x;
    }

    /** The NUMBER of a NEIGHBOUR, or NONE. */
    int neighbour(int number, int direction) {
      return neighbours[number * DIRECTIONS + direction];
    }

    boolean atEdge(int number) {
      boolean found = false;
      for (int d = 0; d < DIRECTIONS; d += 2) {
        found = found || neighbour(number, d) < 0;
      }
      return found;
    }

    static boolean slanted(int direction) {
      return direction % 2 == 1;
    }

    int exchange(int number, int height) {
      int before = heights[number];
      heights[number] = height < 0 ? 0 : height > TOP ? TOP : height;
      return before;
    }

    int difference(int one, int other) {
      return Math.abs(heights[one] - heights[other]);
    }

    int told(int what) {
      switch (what) {
        case 0:
          return w;
        case 1:
          return h;
        case 2:
          return lowest();
        case 3:
          return greatest();
        default:
          return sum();
      }
    }

    private int lowest() {
      int found = TOP;
      for (int i = 0; i < fields; i++) {
        found = Math.min(found, heights[i]);
      }
      return found;
    }

    int greatest() {
      int found = 0;
      for (int i = 0; i < fields; i++) {
        found = Math.max(found, heights[i]);
      }
      return found;
    }

    private int sum() {
      int sum = 0;
      for (int i = 0; i < fields; i++) {
        sum += heights[i];
      }
      return sum;
    }

    void slope(int across, int along, int rough) {
      for (int y = 0; y < h; y++) {
        for (int x = 0; x < w; x++) {
          int number = numberOf(x, y);
          int bump = (x * 7 + y * 13 + x * y * 5) % 17;
          exchange(number, heights[number] + across * x + along * y + bump * rough);
        }
      }
    }

    int raise(int middleX, int middleY, int radius, int by) {
      int changed = 0;
      int reach = radius * radius;
      for (int y = 0; y < h; y++) {
        for (int x = 0; x < w; x++) {
          int distance = (x - middleX) * (x - middleX) + (y - middleY) * (y - middleY);
          if (distance <= reach) {
            int number = numberOf(x, y);
            int before = exchange(number, heights[number] + by - by * distance / (reach + 1));
            changed += before != heights[number] ? 1 : 0;
          }
        }
      }
      return changed;
    }

    int cutDown(int x, int y, int toX, int toY, int height) {
      int changed = 0;
      int n = stepsBetween(x, y, toX, toY);
      for (int k = 0; k <= n; k++) {
        int number = numberOf(between(x, toX, k, n), between(y, toY, k, n));
        if (heights[number] > height) {
          heights[number] = height;
          changed++;
        }
      }
      return changed;
    }

    static int stepsBetween(int x, int y, int toX, int toY) {
      return Math.max(Math.abs(toX - x), Math.abs(toY - y));
    }

    /** One coordinate of the FIELD behind k of n steps. */
    static int between(int from, int to, int k, int n) {
      return n < 1 ? from : from + Math.floorDiv(2 * k * (to - from) + n, 2 * n);
    }

    int soften() {
      for (int i = 0; i < fields; i++) {
        int sum = 4 * heights[i];
        for (int d = 0; d < DIRECTIONS; d += 2) {
          int next = neighbour(i, d);
          sum += heights[next < 0 ? i : next];
        }
        after[i] = sum / 8;
      }
      int changed = 0;
      for (int i = 0; i < fields; i++) {
        changed += exchange(i, after[i]) != after[i] ? 1 : 0;
      }
      return changed;
    }

    int washAway(Streams streams, int by) {
      for (int i = 0; i < fields; i++) {
        int next = streams.next[i];
        int loss = next < 0 ? 0 : Math.min(by * streams.flows[i] / 10, difference(i, next) / 2);
        after[i] = heights[i] - loss;
      }
      int lost = 0;
      for (int i = 0; i < fields; i++) {
        lost += exchange(i, after[i]) - after[i];
      }
      return lost;
    }

    int raiseTo(int[] levels) {
      int added = 0;
      for (int i = 0; i < fields; i++) {
        added += levels[i] - exchange(i, levels[i]);
      }
      return added;
    }

    double meanSteepness() {
      int sum = 0;
      for (int i = 0; i < fields; i++) {
        sum += steepnessOf(i);
      }
      return fields < 1 ? 0 : (double) sum / fields;
    }

    private int steepnessOf(int number) {
      int most = 0;
      for (int d = 0; d < DIRECTIONS; d++) {
        int next = neighbour(number, d);
        if (next >= 0) {
          most = Math.max(most, difference(number, next));
        }
      }
      return most;
    }
  }

  /** Where water goes, and the STREAMS that it makes. */
  private static final class Streams {
    private final Land land;
    private final int[] directions = new int[MOST_FIELDS];
    final int[] next = new int[MOST_FIELDS];
    final int[] flows = new int[MOST_FIELDS];
    final int[] ends = new int[MOST_FIELDS];
    private final int[] distances = new int[MOST_FIELDS];
    final int[] ranks = new int[MOST_FIELDS];
    final int[] lengths = new int[MOST_FIELDS];
    private final int[] awaited = new int[MOST_FIELDS];
    private final boolean[] shared = new boolean[MOST_FIELDS];
    private final int[] order = new int[MOST_FIELDS];
    private int ordered;

    Streams(Land land) {
      this.land = land;
    }

    void run(int brook) {
      for (int i = 0; i < land.fields; i++) {
        chooseDirection(i);
      }
      putInOrder();
      for (int k = 0; k < ordered; k++) {
        passDown(order[k], brook);
      }
      for (int k = ordered - 1; k >= 0; k--) {
        findEnd(order[k]);
      }
    }

    private void chooseDirection(int number) {
      int greatest = 0;
      directions[number] = land.atEdge(number) ? OUT : PIT;
      next[number] = NONE;
      for (int d = 0; d < DIRECTIONS; d++) {
        int to = land.neighbour(number, d);
        if (to >= 0) {
          int fall = (land.heights[number] - land.heights[to]) * (Land.slanted(d) ? 7 : 10);
          if (fall > greatest) {
            greatest = fall;
            directions[number] = d;
            next[number] = to;
          }
        }
      }
    }

    /** Each FIELD behind all from which water goes to it; there is no circle, as water goes to lower ones only. */
    private void putInOrder() {
      Arrays.fill(awaited, 0);
      for (int i = 0; i < land.fields; i++) {
        if (next[i] >= 0) {
          awaited[next[i]]++;
        }
      }
      ordered = 0;
      for (int i = 0; i < land.fields; i++) {
        if (awaited[i] == 0) {
          putNext(i);
        }
      }
      for (int k = 0; k < ordered && k < MOST_FIELDS; k++) {
        int to = next[order[k]];
        if (to >= 0) {
          awaited[to]--;
          if (awaited[to] == 0) {
            putNext(to);
          }
        }
      }
    }

    private void putNext(int number) {
      if (ordered < MOST_FIELDS) {
        order[ordered] = number;
        ordered++;
        flows[number] = 1;
        ranks[number] = 0;
        lengths[number] = 0;
        shared[number] = false;
      }
    }

    /** Until a FIELD's turn comes its rank and length are the greatest ones of those that have gone to it. */
    private void passDown(int number, int brook) {
      if (flows[number] >= brook) {
        boolean grows = shared[number] || ranks[number] == 0;
        ranks[number] += grows ? 1 : 0;
        lengths[number]++;
      }
      int to = next[number];
      if (to >= 0) {
        flows[to] += flows[number];
        lengths[to] = Math.max(lengths[to], lengths[number]);
        shared[to] = ranks[number] == ranks[to] || shared[to] && ranks[number] < ranks[to];
        ranks[to] = Math.max(ranks[to], ranks[number]);
      }
    }

    private void findEnd(int number) {
      int to = next[number];
      ends[number] = to < 0 ? number : ends[to];
      distances[number] = to < 0 ? 0 : distances[to] + 1;
    }

    int told(int number, int what) {
      switch (what) {
        case 0:
          return directions[number];
        case 1:
          return flows[number];
        case 2:
          return ends[number];
        case 3:
          return ranks[number];
        default:
          return distances[number];
      }
    }

    int count(int direction) {
      int count = 0;
      for (int i = 0; i < land.fields; i++) {
        count += directions[i] == direction ? 1 : 0;
      }
      return count;
    }

    int greatestOf(int[] numbers) {
      int greatest = 0;
      for (int i = 0; i < land.fields; i++) {
        greatest = Math.max(greatest, numbers[i]);
      }
      return greatest;
    }
  }

  /** FIELDS that are reached but not yet gone on from. */
  private static final class Frontier {
    private final int[] members = new int[MOST_FIELDS];
    private int size;

    void clear() {
      size = 0;
    }

    void add(int number) {
      if (size < MOST_FIELDS) {
        members[size] = number;
        size++;
      }
    }

    /** Takes out the FIELD with the least key; NONE if it is empty. */
    int takeLeast(int[] keys) {
      if (size == 0) {
        return NONE;
      }
      int place = 0;
      for (int k = 1; k < size; k++) {
        if (keys[members[k]] < keys[members[place]]) {
          place = k;
        }
      }
      int taken = members[place];
      size--;
      members[place] = members[size];
      return taken;
    }
  }

  /** Which members belong together. */
  private static final class Groups {
    private final int[] leaders = new int[MOST_SIDES_OF_SQUARES];

    void part() {
      for (int i = 0; i < MOST_SIDES_OF_SQUARES; i++) {
        leaders[i] = i;
      }
    }

    int leaderOf(int member) {
      int at = member;
      for (int k = 0; k < MOST_SIDES_OF_SQUARES && leaders[at] != at; k++) {
        at = leaders[at];
      }
      leaders[member] = at;
      return at;
    }

    /** Whether they had been apart. */
    boolean join(int one, int other) {
      int leader = leaderOf(one);
      int led = leaderOf(other);
      leaders[led] = leader;
      return led != leader;
    }
  }

  /** The LEVELS and the LAKES. */
  private static final class Hollows {
    private final Land land;
    final int[] levels = new int[MOST_FIELDS];
    private final Frontier frontier = new Frontier();
    private final Groups groups = new Groups();
    int lakeCount;

    Hollows(Land land) {
      this.land = land;
    }

    void find() {
      findLevels();
      groups.part();
      lakeCount = 0;
      for (int i = 0; i < land.fields; i++) {
        if (inLake(i)) {
          lakeCount++;
          joinLakes(i, land.neighbour(i, 0));
          joinLakes(i, land.neighbour(i, 2));
        }
      }
    }

    /** From the EDGE inwards, lowest first: so the first way on which a FIELD is reached is the one with its LEVEL. */
    private void findLevels() {
      frontier.clear();
      for (int i = 0; i < land.fields; i++) {
        levels[i] = NONE;
        if (land.atEdge(i)) {
          levels[i] = land.heights[i];
          frontier.add(i);
        }
      }
      for (int taken = 0; taken < land.fields; taken++) {
        int from = frontier.takeLeast(levels);
        if (from >= 0) {
          spread(from);
        }
      }
    }

    private void spread(int from) {
      for (int d = 0; d < DIRECTIONS; d += 2) {
        int to = land.neighbour(from, d);
        if (to >= 0 && levels[to] == NONE) {
          levels[to] = Math.max(levels[from], land.heights[to]);
          frontier.add(to);
        }
      }
    }

    private void joinLakes(int one, int other) {
      if (other >= 0 && inLake(other) && groups.join(one, other)) {
        lakeCount--;
      }
    }

    private boolean inLake(int number) {
      return depth(number) > 0;
    }

    private int depth(int number) {
      return levels[number] - land.heights[number];
    }

    private boolean inOneLake(int one, int other) {
      return inLake(one) && inLake(other) && groups.leaderOf(one) == groups.leaderOf(other);
    }

    int sizeOfLake(int number) {
      int size = 0;
      for (int i = 0; i < land.fields; i++) {
        size += inOneLake(number, i) ? 1 : 0;
      }
      return size;
    }

    int contentOfLake(int number) {
      int content = 0;
      for (int i = 0; i < land.fields; i++) {
        content += inOneLake(number, i) ? depth(i) : 0;
      }
      return content;
    }

    int content() {
      int content = 0;
      for (int i = 0; i < land.fields; i++) {
        content += depth(i);
      }
      return content;
    }
  }

  /** The LINES at one number; a POINT is told by the side on which it is. */
  private static final class Contours {
    private final Land land;
    private final int[] pieceAt = new int[MOST_SIDES_OF_SQUARES];
    private final Groups groups = new Groups();
    private int pieces;
    private int lines;
    private int closed;

    Contours(Land land) {
      this.land = land;
    }

    void draw(int c) {
      groups.part();
      Arrays.fill(pieceAt, NONE);
      pieces = 0;
      lines = 0;
      closed = 0;
      for (int y = 0; y < land.h - 1; y++) {
        for (int x = 0; x < land.w - 1; x++) {
          drawSquare(land.numberOf(x, y), land.numberOf(x, y + 1), c);
        }
      }
    }

    private void drawSquare(int corner, int below, int c) {
      boolean high = land.heights[corner] > c;
      boolean highRight = land.heights[corner + 1] > c;
      boolean highBelow = land.heights[below] > c;
      boolean highAcross = land.heights[below + 1] > c;
      int top = high != highRight ? sideRightOf(corner) : NONE;
      int right = highRight != highAcross ? sideBelow(corner + 1) : NONE;
      int bottom = highBelow != highAcross ? sideRightOf(below) : NONE;
      int left = high != highBelow ? sideBelow(corner) : NONE;
      if (high == highAcross && highRight == highBelow && high != highRight) {
        boolean cutsHigh = sumOfSquare(corner, below) <= 4 * c;
        addPiece(top, cutsHigh == high ? left : right);
        addPiece(bottom, cutsHigh == high ? right : left);
      } else {
        int one = top >= 0 ? top : right >= 0 ? right : bottom;
        int other = left >= 0 ? left : bottom >= 0 ? bottom : right;
        addPiece(one, other);
      }
    }

    private static int sideRightOf(int number) {
      return 2 * number;
    }

    private static int sideBelow(int number) {
      return 2 * number + 1;
    }

    private int sumOfSquare(int corner, int below) {
      return land.heights[corner] + land.heights[corner + 1] + land.heights[below] + land.heights[below + 1];
    }

    private void addPiece(int one, int other) {
      if (one >= 0 && other >= 0) {
        int piece = pieces;
        pieces++;
        lines++;
        tie(one, piece);
        tie(other, piece);
      }
    }

    /** A piece that meets its own LINE closes it, as no POINT is in more than two pieces. */
    private void tie(int point, int piece) {
      int earlier = pieceAt[point];
      pieceAt[point] = piece;
      if (earlier >= 0) {
        if (groups.join(earlier, piece)) {
          lines--;
        } else {
          closed++;
        }
      }
    }

    int told(int what) {
      return what == 0 ? pieces : what == 1 ? lines : closed;
    }
  }

  /** What one sees from an eye that is up above its FIELD. */
  private static final class Sight {
    private final Land land;

    Sight(Land land) {
      this.land = land;
    }

    boolean reaches(int x, int y, int up, int toX, int toY) {
      int n = Land.stepsBetween(x, y, toX, toY);
      int eye = land.heights[land.numberOf(x, y)] + up;
      int other = land.heights[land.numberOf(toX, toY)];
      for (int k = 1; k < n; k++) {
        int hider = land.numberOf(Land.between(x, toX, k, n), Land.between(y, toY, k, n));
        if (land.heights[hider] * n > eye * (n - k) + other * k) {
          return false;
        }
      }
      return true;
    }

    int countFrom(int x, int y, int up) {
      int count = 0;
      for (int toY = 0; toY < land.h; toY++) {
        for (int toX = 0; toX < land.w; toX++) {
          count += reaches(x, y, up, toX, toY) ? 1 : 0;
        }
      }
      return count;
    }
  }

  /** What it takes to go from one FIELD to all others. */
  private static final class Ways {
    private final Land land;
    final int[] least = new int[MOST_FIELDS];
    private final Frontier frontier = new Frontier();

    Ways(Land land) {
      this.land = land;
    }

    void spreadFrom(int start) {
      Arrays.fill(least, FAR);
      frontier.clear();
      least[start] = 0;
      frontier.add(start);
      for (int taken = 0; taken < land.fields; taken++) {
        int from = frontier.takeLeast(least);
        if (from >= 0) {
          spread(from);
        }
      }
    }

    private void spread(int from) {
      for (int d = 0; d < DIRECTIONS; d++) {
        int to = land.neighbour(from, d);
        if (to >= 0 && least[from] + step(from, to, d) < least[to]) {
          if (least[to] == FAR) {
            frontier.add(to);
          }
          least[to] = least[from] + step(from, to, d);
        }
      }
    }

    private int step(int from, int to, int direction) {
      return (Land.slanted(direction) ? 14 : 10) + land.difference(from, to);
    }

    int goBack(int start, int end, int back) {
      // no WAY has more FIELDS than there are
      if (back >= land.fields) {
        return NONE;
      }
      int at = end;
      for (int k = 0; k < back && at >= 0; k++) {
        at = at == start ? NONE : fieldAhead(at);
      }
      return at;
    }

    private int fieldAhead(int number) {
      int found = NONE;
      for (int d = 0; d < DIRECTIONS; d++) {
        int from = land.neighbour(number, d);
        if (from >= 0 && least[from] + step(from, number, d) == least[number] && (found < 0 || from < found)) {
          found = from;
        }
      }
      return found;
    }
  }
}
