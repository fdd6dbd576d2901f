/** Bounds of MINUTES and EVENTS, and promises 8 to 10. */
final class EventBounds {
  private static final int BAD = LogFlume.BAD, NOT = LogFlume.NOT, FULL = LogFlume.FULL;
  private static final int LEAST = Integer.MIN_VALUE, MOST = Integer.MAX_VALUE;
  private static final int NULL = -11;
  private static final String NINES = "9999999999999999";

  private EventBounds() {}

  static void all() {
    minutes();
    eightAtMost();
    poleForALog();
    shutFeeder();
    burstSpan();
    telling();
    tellingRefused();
    undoing();
    undoingRefused();
    readAsManyAsAreWhole();
    readAsLongAsEachMayBe();
    readUpToEight();
    readingRefused();
  }

  private static void minutes() {
    Says.terms("MINUTES are 0 to 23.");
    LogFlume x = Due.told("", "9", "a1s");
    x.sheet(0, 0, 1);
    for (int m : new int[] {LEAST, -1, 24, MOST}) {
      Due.is("event in " + m, x.event(0, m, 0), BAD);
      Due.is("flume of " + m, x.flume(m, 0, 0), BAD);
      Due.is("at of " + m, x.at(m, 0, 0), BAD);
      Due.is("all of " + m, x.all(m, 0), BAD);
      Due.is("seen behind " + m, x.seen(m, 0, 0), BAD);
      Due.is("write of " + m, x.write(m, 0), BAD);
    }
    for (int m : new int[] {0, 23}) {
      Due.is("event in " + m, x.event(0, m, 15) > 0 ? 1 : 0, 1);
      Due.is("flume of " + m, x.flume(m, 0, 0), 9);
      Due.is("at of " + m, x.at(m, 0, 1), m == 0 ? 0 : 1);
      Due.is("all of " + m, x.all(m, 0), m == 0 ? 9 : 45);
      Due.is("seen behind " + m, x.seen(m, 0, 0) > 0 ? 1 : 0, 1);
      Due.is("write of " + m, x.write(m, 0), 1);
    }
  }

  private static void eightAtMost() {
    Says.terms("EVENTS, 8 at most (0 on): a kind, a MINUTE, a number 0 to 15:");
    LogFlume x = new LogFlume();
    for (int wrong : new int[] {LEAST, -1, 16, MOST}) {
      Due.is("number " + wrong, x.event(1, 0, wrong), BAD);
    }
    for (int i = 0; i < 8; i++) {
      Due.is("event", x.event(i % 3, i, i % 2 * 15), i + 1);
    }
    Due.is("a ninth", x.event(0, 0, 0), FULL);
    Due.is("eight stay", x.count(2), 8);
    Due.is("0 on: each of them never mattered", x.never(), 0xff);
  }

  private static void poleForALog() {
    Says.terms("0 a POLE for that LOG in it,");
    // Nothing but poles can move them: there is no water.
    LogFlume x = Due.told("", "", "a1s;a1s;a1s;a1s;a1s;a1s;a1s;a1s");
    Due.events(x, new int[] {0, 2, 0});
    Due.is("the minute ahead", x.at(1, 0, 0), 0);
    Due.is("in it", x.at(2, 0, 0), 2);
    Due.is("the minute behind", x.at(3, 0, 0), 2);
    Due.is("the second is put in then", x.at(2, 1, 0), 0);
    LogFlume y = Due.told("", "", "b1s;b1s;b1s;b1s;b1s;b1s;b1s;a1s");
    for (int number = 8; number < 15; number++) {
      y.event(0, 1, number);
    }
    Due.is("poles for logs that are not", y.at(1, 7, 0), 0);
    Due.events(y, new int[] {0, 1, 7});
    Due.is("a pole for the eighth", y.at(1, 7, 0), 2);
    LogFlume z = Due.told("", "", "a1s");
    Due.events(z, new int[] {0, 23, 0});
    Due.is("in the last minute", z.at(23, 0, 0), 2);
    LogFlume v = Due.told("", "", "a1s");
    Due.events(v, new int[] {0, 0, 0}, new int[] {0, 1, 15});
    Due.is("in the first minute, and for the last number", v.at(23, 0, 0), 0);
  }

  private static void shutFeeder() {
    Says.terms("1 the FEEDER at that SPAN is SHUT in it,");
    LogFlume x = Due.told("", "5000000000000005", "");
    Due.events(x, new int[] {1, 0, 0}, new int[] {1, 23, 15});
    Due.is("SPAN 0 in 0", x.flume(0, 0, 0), 0);
    Due.is("SPAN 0 in 1", x.flume(1, 0, 0), 5);
    Due.is("SPAN 15 in 0", x.flume(0, 15, 0), 5);
    Due.is("SPAN 15 in 22", x.flume(22, 15, 0), 5);
    Due.is("SPAN 15 in 23", x.flume(23, 15, 0), 0);
    Due.is("SPAN 0 in 23", x.flume(23, 0, 0), 5);
    Due.events(x, new int[] {1, 5, 7});
    Due.is("one that lets in nothing", x.flume(5, 7, 0), 0);
    LogFlume y = Due.told("", "55", "");
    Due.events(y, new int[] {1, 3, 1});
    Due.is("what comes from above comes", y.flume(3, 1, 0), 4);
  }

  private static void burstSpan() {
    Says.terms("2 that SPAN BURSTS in it.");
    LogFlume x = Due.told("", NINES, "");
    Due.events(x, new int[] {2, 0, 0}, new int[] {2, 23, 15});
    Due.is("SPAN 0 in 0", x.flume(0, 0, 0), 0);
    Due.is("SPAN 1 in 0", x.flume(0, 1, 0), 9);
    Due.is("SPAN 0 in 1", x.flume(1, 0, 0), 9);
    Due.is("SPAN 15 in 22", x.flume(22, 15, 0), 20);
    Due.is("SPAN 15 in 23", x.flume(23, 15, 0), 0);
    Due.is("SPAN 14 in 23", x.flume(23, 14, 0), 20);
  }

  private static void telling() {
    Says.promise(8, "An EVENT more: how many.");
    LogFlume x = new LogFlume();
    Due.is("the least of all", x.event(0, 0, 0), 1);
    Due.is("the greatest of all", x.event(2, 23, 15), 2);
    Due.is("one that is there already", x.event(2, 23, 15), 3);
    Due.is("for a log that is not told", x.event(0, 5, 7), 4);
  }

  private static void tellingRefused() {
    Says.promise(8, "BAD; FULL.");
    LogFlume x = new LogFlume();
    for (int filled = 0; filled < 2; filled++) {
      for (int wrong : new int[] {LEAST, -1, 3, MOST}) {
        Due.is("kind " + wrong, x.event(wrong, 0, 0), BAD);
      }
      for (int wrong : new int[] {LEAST, -1, 24, MOST}) {
        Due.is("minute " + wrong, x.event(0, wrong, 0), BAD);
      }
      for (int wrong : new int[] {LEAST, -1, 16, MOST}) {
        Due.is("number " + wrong, x.event(0, 0, wrong), BAD);
      }
      Due.is("EVENTS", x.count(2), 8 * filled);
      for (int i = 0; filled == 0 && i < 8; i++) {
        Due.is("event", x.event(2, 23, 15), i + 1);
      }
    }
    Due.is("FULL", x.event(2, 23, 15), FULL);
    Due.is("back()", x.back(), 7);
    Due.is("one fits again", x.event(0, 0, 0), 8);
    Due.is("FULL", x.event(0, 0, 0), FULL);
  }

  private static void undoing() {
    Says.promise(9, "The last EVENT is undone: how many are left.");
    LogFlume x = Due.told("", "5", "");
    for (int m = 0; m < 8; m++) {
      x.event(1, m, 0);
    }
    for (int left = 7; left >= 0; left--) {
      Due.is("back()", x.back(), left);
      Due.is("the last is undone", x.flume(left, 0, 0), 5);
      Due.is("the one ahead is not", left > 0 ? x.flume(left - 1, 0, 0) : 0, 0);
    }
  }

  private static void undoingRefused() {
    Says.promise(9, "NOT: there is none.");
    LogFlume x = new LogFlume();
    Due.is("back()", x.back(), NOT);
    x.event(0, 0, 0);
    Due.is("back()", x.back(), 0);
    Due.is("back()", x.back(), NOT);
    Due.is("event(0, 0, 0)", x.event(0, 0, 0), 1);
  }

  private static LogFlume laid(int form, int... items) {
    LogFlume x = Due.told("", "5", "");
    Due.is("sheet", x.sheet(3, form, items.length), items.length);
    for (int i = 0; i < items.length; i++) {
      Due.is("lay", x.lay(3, form, i, items[i]), 1);
    }
    return x;
  }

  private static void read(int want, int form, int... items) {
    LogFlume x = laid(form, items);
    Due.is("read of " + java.util.Arrays.toString(items), x.read(3), want);
    Due.is("EVENTS", x.count(2), want);
  }

  private static void readAsManyAsAreWhole() {
    Says.promise(10, "EVENTS from a SHEET: its items, three for each, as many as are whole,");
    for (int form = 0; form < 3; form++) {
      read(0, form);
      read(0, form, 1);
      read(0, form, 1, 2);
      read(1, form, 1, 2, 0);
      read(1, form, 1, 2, 0, 1);
      read(1, form, 1, 2, 0, 1, 3);
      read(2, form, 1, 2, 0, 1, 3, 0);
      LogFlume x = laid(form, 1, 2, 0, 1, 3, 0, 1, 4);
      Due.is("not yet", x.flume(2, 0, 0), 5);
      Due.is("read", x.read(3), 2);
      Due.is("the first", x.flume(2, 0, 0), 0);
      Due.is("the second", x.flume(3, 0, 0), 0);
      Due.is("the third is not whole", x.flume(4, 0, 0), 5);
    }
  }

  private static void readAsLongAsEachMayBe() {
    Says.promise(10, "as long as each may be: how many.");
    read(1, 0, 2, 23, 15, 3, 0, 0, 0, 0, 0);
    read(1, 0, 2, 23, 15, -1, 0, 0, 0, 0, 0);
    read(1, 1, 2, 23, 15, 0, 24, 0, 0, 0, 0);
    read(1, 1, 2, 23, 15, 0, -1, 0, 0, 0, 0);
    read(1, 2, 2, 23, 15, 0, 0, 16, 0, 0, 0);
    read(1, 2, 2, 23, 15, 0, 0, -1, 0, 0, 0);
    read(0, 2, MOST, 0, 0, 0, 0, 0);
    read(0, 2, 0, LEAST, 0, 0, 0, 0);
    read(0, 2, 0, 0, MOST, 0, 0, 0);
    // What a row has of it is read, not what was laid.
    read(1, 0, 256, 512, -256);
    read(1, 1, 65536, 65536, 65536 + 15);
    read(0, 0, 255, 0, 0);
    read(0, 0, 0, 0, 128);
  }

  private static void readUpToEight() {
    Says.promise(10, "as long as each may be: how many.");
    read(7, 0, new int[23]);
    read(8, 0, new int[24]);
    read(8, 0, new int[27]);
    read(8, 0, new int[60]);
    for (int had = 0; had <= 8; had++) {
      LogFlume x = laid(1, 1, 20, 0, 1, 21, 0, 1, 22, 0);
      for (int i = 0; i < had; i++) {
        x.event(1, i, 0);
      }
      int came = Math.min(3, 8 - had);
      Due.is("read behind " + had, x.read(3), came);
      Due.is("EVENTS", x.count(2), had + came);
      for (int i = 0; i < 3; i++) {
        Due.is("the " + i + "th", x.flume(20 + i, 0, 0), i < came ? 0 : 5);
      }
      for (int i = 0; i < had; i++) {
        Due.is("those that were there", x.flume(i, 0, 0), 0);
      }
    }
  }

  private static void readingRefused() {
    Says.promise(10, "BAD; NULL.");
    LogFlume x = laid(0, 0, 0, 0);
    for (int s : new int[] {LEAST, -1, 4, MOST}) {
      Due.is("read(" + s + ")", x.read(s), BAD);
    }
    Due.is("no FINDING", x.count(8), 0);
    for (int s = 0; s < 3; s++) {
      Due.is("read(" + s + ")", x.read(s), NULL);
    }
    Due.is("NULL", x.count(8), 1);
    Due.is("no EVENTS", x.count(2), 0);
    Due.is("one of no items is not LOST", x.sheet(0, 2, 0), 0);
    Due.is("read(0)", x.read(0), 0);
    Due.is("read(3)", x.read(3), 1);
    Due.is("lost again", x.lose(3), 3);
    Due.is("read(3)", x.read(3), NULL);
    Due.is("EVENTS", x.count(2), 1);
  }
}
