/** What the tests have in common: a count of wrong answers, and texts typed at once. */
final class Due {
  static final long BAD_LONG = Long.MIN_VALUE + 2;
  private static int asked = 0;
  private static int wrong = 0;
  private static String sentence = "";

  private Due() {}

  /** The sentence of the document that the answers from here on are held to. */
  static void by(String quote) {
    sentence = "[" + quote + "] ";
  }

  static void is(String call, long got, long want) {
    asked++;
    if (got != want) {
      wrong++;
      System.out.println(sentence + call + " answered " + got + ", due is " + want);
    }
  }

  static void type(LogFlume x, int text, String bytes) {
    for (int i = 0; i < bytes.length(); i++) {
      is("type(" + text + ", " + (int) bytes.charAt(i) + ")", x.type(text, bytes.charAt(i)), i + 1);
    }
  }

  static void events(LogFlume x, int[]... rows) {
    for (int[] e : rows) {
      is("event(" + e[0] + ", " + e[1] + ", " + e[2] + ")", x.event(e[0], e[1], e[2]), x.count(2));
    }
  }

  static LogFlume told(String slopes, String feeders, String logs) {
    LogFlume x = new LogFlume();
    type(x, 0, slopes);
    type(x, 1, feeders);
    type(x, 2, logs);
    return x;
  }

  static void end() {
    System.out.println(asked + " answers, " + wrong + " wrong");
    if (wrong != 0) {
      System.exit(1);
    }
  }
}
