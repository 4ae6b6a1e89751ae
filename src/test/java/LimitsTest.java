import java.lang.reflect.InvocationTargetException;
import java.util.Arrays;

/**
 * Each argument of each call of the face at its limits, together with each limit of the others: the least and the
 * greatest that are taken, answered as the model does; one below and one above, refused with the exception that is
 * named first, and nothing is changed by it.
 */
final class LimitsTest {
  /** What the arguments may be: X and Y are those of a FIELD. */
  private static final String[] CALLS = {
    "reset 2..16 2..16",
    "set X Y 0..999",
    "tilt -100..100 -100..100 -100..100",
    "hill X Y 0..8 -500..500",
    "dig X Y X Y 0..999",
    "wear 1..50",
    "setBrook 1..100",
    "map 0..4",
    "height X Y",
    "water X Y 0..4",
    "level X Y",
    "lake X Y 0..1",
    "contour 0..999 0..2",
    "sees X Y 0..500 X Y",
    "seen X Y 0..500",
    "takes X Y X Y",
    "way X Y X Y 0..2147483647",
    "volumeWith X Y 0..999",
    "endsWith X Y 0..999",
    "lookout Y 0..500",
  };
  private static final int[][] SIZES = {{2, 2}, {2, 16}, {16, 2}, {16, 16}, {12, 12}, {3, 3}};
  private static final int OUTERMOST_LOW = 0;
  private static final int BELOW = 1;
  private static final int LEAST = 2;
  private static final int GREATEST = 3;
  private static final int ABOVE = 4;
  private static final int OUTERMOST_HIGH = 5;

  private final String name;
  private final String[] kinds;
  private final int w;
  private final int h;

  private LimitsTest(String call, int[] size) {
    String[] words = call.split(" ");
    name = words[0];
    kinds = Arrays.copyOfRange(words, 1, words.length);
    w = size[0];
    h = size[1];
  }

  public static void main(String[] args) throws ReflectiveOperationException {
    for (String call : CALLS) {
      for (int[] size : SIZES) {
        LimitsTest test = new LimitsTest(call, size);
        test.allTogether(new int[test.kinds.length], 0);
        test.outermost(LEAST);
        test.outermost(GREATEST);
      }
    }
    Due.end();
  }

  /** Each argument one below, the least, the greatest, one above, with each of these of the others. */
  private void allTogether(int[] places, int argument) throws ReflectiveOperationException {
    if (argument == places.length) {
      check(places);
      return;
    }
    for (int place = BELOW; place <= ABOVE; place++) {
      places[argument] = place;
      allTogether(places, argument + 1);
    }
  }

  /** One argument the least or the greatest int that there is, the others taken. */
  private void outermost(int others) throws ReflectiveOperationException {
    for (int argument = 0; argument < kinds.length; argument++) {
      int[] places = new int[kinds.length];
      Arrays.fill(places, others);
      places[argument] = OUTERMOST_LOW;
      check(places);
      places[argument] = OUTERMOST_HIGH;
      check(places);
    }
  }

  private void check(int[] places) throws ReflectiveOperationException {
    Integer[] values = new Integer[places.length];
    boolean noField = false;
    boolean illegal = false;
    for (int k = 0; k < places.length; k++) {
      values[k] = value(kinds[k], places[k]);
      boolean wrong = values[k] < least(kinds[k]) || values[k] > greatest(kinds[k]);
      boolean ofField = kinds[k].equals("X") || kinds[k].equals("Y");
      noField = noField || wrong && ofField;
      illegal = illegal || wrong && !ofField;
    }
    if (noField || illegal) {
      refused(values, noField ? "IndexOutOfBoundsException" : "IllegalArgumentException");
    } else {
      taken(values);
    }
  }

  private int least(String kind) {
    return kind.contains("..") ? Integer.parseInt(kind.split("\\.\\.")[0]) : 0;
  }

  private int greatest(String kind) {
    return kind.equals("X") ? w - 1 : kind.equals("Y") ? h - 1 : Integer.parseInt(kind.split("\\.\\.")[1]);
  }

  private int value(String kind, int place) {
    switch (place) {
      case OUTERMOST_LOW:
        return Integer.MIN_VALUE;
      case BELOW:
        return least(kind) - 1;
      case LEAST:
        return least(kind);
      case GREATEST:
        return greatest(kind);
      case ABOVE:
        return greatest(kind) == Integer.MAX_VALUE ? greatest(kind) : greatest(kind) + 1;
      default:
        return Integer.MAX_VALUE;
    }
  }

  private WatershedMap land() {
    WatershedMap map = new WatershedMap();
    // a new object has 12 times 12 without a reset
    if (w != 12 || h != 12) {
      map.reset(w, h);
    }
    map.tilt(20, 15, 8);
    map.hill(w / 2, h / 2, 4, 200);
    map.hill(0, h - 1, 3, -250);
    return map;
  }

  private Model modelOfLand() {
    Model model = new Model();
    model.reset(w, h);
    model.tilt(20, 15, 8);
    model.hill(w / 2, h / 2, 4, 200);
    model.hill(0, h - 1, 3, -250);
    return model;
  }

  private Class<?>[] types() {
    Class<?>[] types = new Class<?>[kinds.length];
    Arrays.fill(types, int.class);
    return types;
  }

  private String told(Integer[] values) {
    return name + Arrays.toString(values) + " on " + w + " times " + h;
  }

  private Object answer(WatershedMap map, Integer[] values) throws ReflectiveOperationException {
    try {
      return WatershedMap.class.getMethod(name, types()).invoke(map, (Object[]) values);
    } catch (InvocationTargetException e) {
      return e.getCause().getClass().getSimpleName();
    }
  }

  private void refused(Integer[] values, String exception) throws ReflectiveOperationException {
    WatershedMap map = land();
    String before = Maps.all(map);
    Due.is(told(values), String.valueOf(answer(map, values)), exception);
    Due.is(told(values) + ": the MAP and BROOK afterwards", Maps.all(map), before);
  }

  private void taken(Integer[] values) throws ReflectiveOperationException {
    WatershedMap map = land();
    Model model = modelOfLand();
    Object due = Model.class.getDeclaredMethod(name, types()).invoke(model, (Object[]) values);
    Due.is(told(values), String.valueOf(answer(map, values)), String.valueOf(due));
    Due.is(told(values) + ": the HEIGHTS afterwards", Maps.rows(map), rows(model));
    Due.is(told(values) + ": BROOK afterwards", map.setBrook(1), model.brook);
  }

  private static String rows(Model model) {
    StringBuilder text = new StringBuilder();
    for (int[] row : model.heights) {
      text.append(text.length() == 0 ? "" : " / ");
      for (int x = 0; x < row.length; x++) {
        text.append(x == 0 ? "" : " ").append(row[x]);
      }
    }
    return text.toString();
  }
}
