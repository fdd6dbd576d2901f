/** Promises 1 to 7: a new object, type, wipe, undo, fault, span, log. */
public final class TextsTest {
  public static void main(String[] args) {
    newObject();
    typing();
    wiping();
    undoing();
    faults();
    spans();
    logs();
    Due.end();
  }

  private static void newObject() {
    LogFlume x = new LogFlume();
    for (int what = 0; what <= 8; what++) {
      Due.is("new: count(" + what + ")", x.count(what), 0);
    }
    for (int span = 0; span < 16; span++) {
      Due.is("new: span(" + span + ", 0)", x.span(span, 0), 1);
      Due.is("new: span(" + span + ", 1)", x.span(span, 1), 0);
      Due.is("new: flume(23, " + span + ", 0)", x.flume(23, span, 0), 0);
    }
    for (int text = 0; text < 3; text++) {
      Due.is("new: undo(" + text + ")", x.undo(text), LogFlume.NOT);
    }
    Due.is("new: back()", x.back(), LogFlume.NOT);
    Due.is("new: forget()", x.forget(), 0);
    for (int s = 0; s < 4; s++) {
      Due.is("new: lose(" + s + ")", x.lose(s), -11);
    }
    LogFlume y = new LogFlume();
    Due.type(x, 1, "9");
    Due.is("another object", y.span(0, 1), 0);
  }

  private static void typing() {
    LogFlume x = new LogFlume();
    Due.is("type(-1, 49)", x.type(-1, 49), LogFlume.BAD);
    Due.is("type(3, 49)", x.type(3, 49), LogFlume.BAD);
    Due.is("type(0, -1)", x.type(0, -1), LogFlume.BAD);
    Due.is("type(0, 256)", x.type(0, 256), LogFlume.BAD);
    Due.is("type(0, 0)", x.type(0, 0), 1);
    Due.is("type(0, 255)", x.type(0, 255), 2);
    Due.type(x, 1, "0123456789012345");
    Due.is("17th byte of text 1", x.type(1, 48), LogFlume.FULL);
    Due.is("BAD ahead of FULL", x.type(1, 256), LogFlume.BAD);
    Due.type(x, 2, "a1s;b2l;c3s;d4l;e5s;f6l;g7s;h8l");
    Due.is("32nd byte of text 2", x.type(2, 59), LogFlume.FULL);
    Due.is("bytes", x.count(1), 2 + 16 + 31);
    Due.is("refused bytes change nothing", x.fault(2), LogFlume.NONE);
  }

  private static void wiping() {
    LogFlume x = Due.told("33", "99", "a1s");
    Due.is("wipe(-1)", x.wipe(-1), LogFlume.BAD);
    Due.is("wipe(3)", x.wipe(3), LogFlume.BAD);
    Due.is("wipe(0)", x.wipe(0), 2);
    Due.is("slope behind wipe", x.span(0, 0), 1);
    Due.is("feeder behind wipe(0)", x.span(0, 1), 9);
    Due.is("wipe(2)", x.wipe(2), 3);
    Due.is("logs behind wipe", x.count(0), 0);
    Due.is("wipe(2) again", x.wipe(2), 0);
    Due.is("flume(0, 0, 0)", x.flume(0, 0, 0), 9);
    Due.is("wipe(1)", x.wipe(1), 2);
    Due.is("water behind wipe", x.flume(0, 0, 0), 0);
  }

  private static void undoing() {
    LogFlume x = Due.told("", "12", "");
    Due.is("undo(-1)", x.undo(-1), LogFlume.BAD);
    Due.is("undo(3)", x.undo(3), LogFlume.BAD);
    Due.is("undo(0)", x.undo(0), LogFlume.NOT);
    Due.is("flume(0, 1, 0)", x.flume(0, 1, 0), 2);
    Due.is("undo(1)", x.undo(1), 1);
    Due.is("flume(0, 1, 0)", x.flume(0, 1, 0), 0);
    Due.is("undo(1)", x.undo(1), 0);
    Due.is("undo(1)", x.undo(1), LogFlume.NOT);
  }

  private static int faultOf(int text, String bytes) {
    LogFlume x = new LogFlume();
    Due.type(x, text, bytes);
    return x.fault(text);
  }

  private static void faults() {
    LogFlume x = new LogFlume();
    Due.is("fault(-1)", x.fault(-1), LogFlume.BAD);
    Due.is("fault(3)", x.fault(3), LogFlume.BAD);
    Object[][] rows = {
      {0, "", -1}, {0, "123", -1}, {0, "0", 0}, {0, "1234", 3}, {0, "1 4", 1}, {0, "1231231231231230", 15},
      {1, "", -1}, {1, "0912", -1}, {1, "/", 0}, {1, "9:", 1}, {1, "0a0b", 1},
      {2, "", -1}, {2, "a", 1}, {2, "a1", 2}, {2, "a1s", -1}, {2, "a1s;", 4}, {2, "a1s;x", 5}, {2, "a1s;x9", 6},
      {2, "a1s;x9l", -1}, {2, "y", 0}, {2, "A1s", 0}, {2, "`1s", 0}, {2, "x0", 1}, {2, "x:", 1}, {2, "x9t", 2},
      {2, "x9s,", 3}, {2, "x9ss", 3}, {2, ";", 0}, {2, "a1s;;", 4}, {2, "a1s;a1m;a", 6},
      {2, "a1s;b2l;c3s;d4l;e5s;f6l;g7s;h8l", -1}, {2, "a1s;b2l;c3s;d4l;e5s;f6l;g7s;h8", 30},
    };
    for (Object[] row : rows) {
      Due.is("fault of " + row[1], faultOf((Integer) row[0], (String) row[1]), (Integer) row[2]);
    }
    LogFlume y = Due.told("33x", "99x", "a1s;");
    Due.is("faulty slopes", y.span(0, 0), 1);
    Due.is("faulty feeders", y.span(0, 1), 0);
    Due.is("faulty logs", y.count(0), 0);
    Due.is("bytes of faulty texts", y.count(1), 10);
    Due.is("no water", y.all(23, 0), 0);
    y.undo(1);
    y.undo(2);
    Due.is("water once more", y.flume(0, 0, 0), 9);
    Due.is("a log once more", y.count(0), 1);
  }

  private static void spans() {
    LogFlume x = Due.told("312", "095", "");
    int[][] rows = {{0, 3, 0}, {1, 1, 9}, {2, 2, 5}, {3, 1, 0}, {15, 1, 0}};
    for (int[] row : rows) {
      Due.is("span(" + row[0] + ", 0)", x.span(row[0], 0), row[1]);
      Due.is("span(" + row[0] + ", 1)", x.span(row[0], 1), row[2]);
    }
    Due.is("span(-1, 0)", x.span(-1, 0), LogFlume.BAD);
    Due.is("span(16, 0)", x.span(16, 0), LogFlume.BAD);
    Due.is("span(0, -1)", x.span(0, -1), LogFlume.BAD);
    Due.is("span(0, 2)", x.span(0, 2), LogFlume.BAD);
  }

  private static void logs() {
    LogFlume x = Due.told("", "", "a1s;x9l");
    int[][] rows = {{0, 1, 0}, {23, 9, 1}};
    for (int log = 0; log < 2; log++) {
      for (int what = 0; what < 3; what++) {
        Due.is("log(" + log + ", " + what + ")", x.log(log, what), rows[log][what]);
      }
    }
    Due.is("log(2, 0)", x.log(2, 0), LogFlume.BAD);
    Due.is("log(-1, 0)", x.log(-1, 0), LogFlume.BAD);
    Due.is("log(0, 3)", x.log(0, 3), LogFlume.BAD);
    Due.is("log(0, -1)", x.log(0, -1), LogFlume.BAD);
  }
}
