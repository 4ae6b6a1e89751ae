/** What a test calls to say which answers are due; it counts, and it ends the test. */
final class Due {
  private static int right = 0;
  private static int wrong = 0;

  private Due() {
  }

  static void is(String call, long got, long want) {
    note(got == want, call + " answered " + got + ", due is " + want);
  }

  static void is(String call, double got, double want) {
    note(got == want, call + " answered " + got + ", due is " + want);
  }

  static void is(String call, String got, String want) {
    note(got.equals(want), call + " answered " + got + ", due is " + want);
  }

  static void is(String call, boolean got, boolean want) {
    note(got == want, call + " answered " + got + ", due is " + want);
  }

  /** The call throws an IndexOutOfBoundsException and changes nothing. */
  static void noField(WatershedMap map, String call, Runnable run) {
    refused(map, call, run, IndexOutOfBoundsException.class);
  }

  /** The call throws an IllegalArgumentException and changes nothing. */
  static void illegal(WatershedMap map, String call, Runnable run) {
    refused(map, call, run, IllegalArgumentException.class);
  }

  private static void refused(WatershedMap map, String call, Runnable run, Class<? extends Exception> want) {
    String before = Maps.all(map);
    Class<?> got = null;
    try {
      run.run();
    } catch (RuntimeException e) {
      got = e.getClass();
    }
    note(got == want, call + " threw " + got + ", due is " + want);
    note(Maps.all(map).equals(before), call + " changed something");
  }

  private static void note(boolean good, String text) {
    if (good) {
      right++;
    } else {
      wrong++;
      System.out.println(text);
    }
  }

  static void end() {
    System.out.println(right + " answers as due, " + wrong + " not");
    if (wrong > 0 || right == 0) {
      System.exit(1);
    }
  }
}
