/** Promises 8 to 10: event, back, read. */
public final class EventsTest {
  public static void main(String[] args) {
    telling();
    goingBack();
    reading();
    readingOnTop();
    Due.end();
  }

  private static void telling() {
    LogFlume x = new LogFlume();
    int[][] bad = {{-1, 0, 0}, {3, 0, 0}, {0, -1, 0}, {0, 24, 0}, {0, 0, -1}, {0, 0, 16}};
    for (int[] e : bad) {
      Due.is("event " + e[0] + " " + e[1] + " " + e[2], x.event(e[0], e[1], e[2]), LogFlume.BAD);
    }
    for (int i = 0; i < 8; i++) {
      Due.is("event", x.event(i % 3, 23 - i, 15 - i), i + 1);
    }
    Due.is("ninth event", x.event(0, 0, 0), LogFlume.FULL);
    Due.is("BAD ahead of FULL", x.event(3, 0, 0), LogFlume.BAD);
    Due.is("count(2)", x.count(2), 8);
  }

  private static void goingBack() {
    LogFlume x = Due.told("", "5", "");
    Due.is("back()", x.back(), LogFlume.NOT);
    x.event(1, 0, 0);
    x.event(2, 1, 0);
    Due.is("shut", x.flume(0, 0, 0), 0);
    Due.is("burst", x.flume(1, 0, 0), 0);
    Due.is("back()", x.back(), 1);
    Due.is("no burst", x.flume(1, 0, 0), 5);
    Due.is("still shut", x.flume(0, 0, 0), 0);
    Due.is("back()", x.back(), 0);
    Due.is("not shut", x.flume(0, 0, 0), 5);
    Due.is("back()", x.back(), LogFlume.NOT);
  }

  private static void layAll(LogFlume x, int s, int form, int[] items) {
    Due.is("sheet", x.sheet(s, form, items.length), items.length);
    for (int i = 0; i < items.length; i++) {
      Due.is("lay", x.lay(s, form, i, items[i]), 1);
    }
  }

  private static int readOf(int form, int... items) {
    LogFlume x = new LogFlume();
    layAll(x, 2, form, items);
    int came = x.read(2);
    Due.is("events are as many as were read", x.count(2), came);
    return came;
  }

  private static void reading() {
    LogFlume x = new LogFlume();
    Due.is("read(-1)", x.read(-1), LogFlume.BAD);
    Due.is("read(4)", x.read(4), LogFlume.BAD);
    Due.is("no finding yet", x.count(8), 0);
    Due.is("read(0)", x.read(0), -11);
    Due.is("count(8)", x.count(8), 1);
    Due.is("no items", readOf(0), 0);
    Due.is("two items", readOf(1, 1, 2), 0);
    Due.is("three items", readOf(2, 2, 23, 15), 1);
    Due.is("five items", readOf(0, 2, 23, 15, 0, 0), 1);
    Due.is("a bad kind", readOf(0, 3, 0, 0, 0, 0, 0), 0);
    Due.is("a bad minute second", readOf(1, 0, 0, 0, 0, 24, 0, 0, 0, 0), 1);
    Due.is("a bad number third", readOf(2, 0, 0, 0, 1, 1, 1, 2, 2, 16, 0, 0, 0), 2);
    Due.is("below 0", readOf(0, 0, 0, 0, 1, 1, -1), 1);
    Due.is("twenty, eight at most", readOf(0, new int[60]), 8);
    LogFlume y = Due.told("", "5", "");
    layAll(y, 0, 1, new int[] {1, 3, 0, 2, 4, 0});
    Due.is("not yet shut", y.flume(3, 0, 0), 5);
    Due.is("read(0)", y.read(0), 2);
    Due.is("shut by the sheet", y.flume(3, 0, 0), 0);
    Due.is("burst by the sheet", y.flume(4, 0, 0), 0);
    Due.is("later", y.flume(5, 0, 0), 5);
    Due.is("the sheet stays", y.get(0, 1, 1), 3);
  }

  private static void readingOnTop() {
    LogFlume x = Due.told("", "5", "");
    for (int i = 0; i < 6; i++) {
      x.event(1, i, 0);
    }
    layAll(x, 0, 0, new int[] {1, 10, 0, 1, 11, 0, 1, 12, 0});
    Due.is("read as many as fit", x.read(0), 2);
    Due.is("count(2)", x.count(2), 8);
    Due.is("what was told stays", x.flume(5, 0, 0), 0);
    Due.is("what was read is there", x.flume(11, 0, 0), 0);
    Due.is("what did not fit is not", x.flume(12, 0, 0), 5);
    Due.is("read when full", x.read(0), 0);
  }
}
