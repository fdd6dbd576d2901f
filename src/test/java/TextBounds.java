/** Bounds of the texts: SLOPES, FEEDERS, LOGS, their FAULTS, and promises 1 to 7. */
final class TextBounds {
  private static final int NONE = LogFlume.NONE, BAD = LogFlume.BAD, NOT = LogFlume.NOT, FULL = LogFlume.FULL;
  private static final int LEAST = Integer.MIN_VALUE, MOST = Integer.MAX_VALUE;
  private static final String EIGHT = "a1s;b2l;c3s;d4l;e5s;f6l;g7s;x9l";
  private static final String[] FULL_TEXTS = {"1231231231231231", "0123456789012345", EIGHT};

  private TextBounds() {}

  static void all() {
    slopes();
    feeders();
    logsAreUpTo31Bytes();
    logsAreEightAtMost();
    lettersAndFigures();
    faultIsTheFirst();
    faultOfNone();
    faultOfOneNotEnded();
    faultOfNinth();
    withFault();
    newObject();
    typing();
    typingRefused();
    wiping();
    wipingRefused();
    undoing();
    undoingRefused();
    faultAsked();
    spanAsked();
    spanRefused();
    logAsked();
    logRefused();
  }

  private static void fault(int text, String bytes, int want) {
    LogFlume x = new LogFlume();
    Due.type(x, text, bytes);
    Due.is("fault(" + text + ") of \"" + bytes + "\"", x.fault(text), want);
  }

  private static LogFlume typed(int text, String bytes) {
    LogFlume x = new LogFlume();
    Due.type(x, text, bytes);
    return x;
  }

  private static LogFlume full() {
    return Due.told(FULL_TEXTS[0], FULL_TEXTS[1], FULL_TEXTS[2]);
  }

  private static void slopes() {
    Says.terms("SLOPES are a text of up to 16 figures 1 to 3 (text 0), of SPANS 0 on; 1 of later ones.");
    fault(0, "0", 0);
    fault(0, "1", NONE);
    fault(0, "3", NONE);
    fault(0, "4", 0);
    LogFlume x = typed(0, "333333333333332");
    Due.is("the first of 15", x.span(0, 0), 3);
    Due.is("the 15th of 15", x.span(14, 0), 2);
    Due.is("behind the 15th", x.span(15, 0), 1);
    Due.is("a 16th", x.type(0, '3'), 16);
    Due.is("the 16th of 16", x.span(15, 0), 3);
    Due.is("a 17th", x.type(0, '3'), FULL);
    Due.is("no fault by it", x.fault(0), NONE);
    Due.is("of none told", new LogFlume().span(0, 0), 1);
  }

  private static void feeders() {
    Says.terms("FEEDERS are a text of up to 16 figures 0 to 9 (text 1), of SPANS 0 on: "
        + "how much WATER comes there in each MINUTE; 0 at later ones.");
    fault(1, "/", 0);
    fault(1, "0", NONE);
    fault(1, "9", NONE);
    fault(1, ":", 0);
    LogFlume x = typed(1, "100000000000000");
    Due.is("the first of 15", x.span(0, 1), 1);
    Due.is("behind the 15th", x.span(15, 1), 0);
    Due.is("no water there", x.flume(23, 15, 0), 0);
    Due.is("a 16th", x.type(1, '9'), 16);
    Due.is("the 16th of 16", x.span(15, 1), 9);
    for (int minute = 0; minute < 24; minute++) {
      Due.is("water in SPAN 0 behind " + minute, x.flume(minute, 0, 0), 1);
      Due.is("water in SPAN 15 behind " + minute, x.flume(minute, 15, 0), 9);
    }
    Due.is("a 17th", x.type(1, '9'), FULL);
    Due.is("no fault by it", x.fault(1), NONE);
    Due.is("of none told", new LogFlume().span(0, 1), 0);
  }

  private static void logsAreUpTo31Bytes() {
    Says.terms("LOGS are a text of up to 31 bytes (text 2),");
    LogFlume x = typed(2, EIGHT.substring(0, 30));
    Due.is("31st", x.type(2, 'l'), 31);
    Due.is("well", x.fault(2), NONE);
    Due.is("32nd", x.type(2, ';'), FULL);
    Due.is("still well", x.fault(2), NONE);
    Due.is("bytes", x.count(1), 31);
  }

  private static void logsAreEightAtMost() {
    Says.terms("8 at most (0 on), with ; between them:");
    LogFlume x = typed(2, EIGHT);
    Due.is("eight", x.count(0), 8);
    Due.is("the first", x.log(0, 1), 1);
    Due.is("the eighth", x.log(7, 1), 9);
    Due.is("no ninth", x.log(8, 1), BAD);
    Due.is("seven, and a sign behind them", typed(2, EIGHT.substring(0, 28)).count(0), 0);
    Due.is("seven", typed(2, EIGHT.substring(0, 27)).count(0), 7);
    Due.is("one", typed(2, "a1s").count(0), 1);
    Due.is("none", new LogFlume().count(0), 0);
    fault(2, "a1s:b1s", 3);
    fault(2, "a1s<b1s", 3);
    fault(2, "a1sb1s", 3);
    fault(2, ";a1s", 0);
    fault(2, "a1s;;b1s", 4);
  }

  private static void lettersAndFigures() {
    Says.terms("a letter a to x, the MINUTE (0 to 23), a figure 1 to 9, the DRAUGHT, and s (short) or l (long).");
    fault(2, "`1s", 0);
    fault(2, "y1s", 0);
    fault(2, "A1s", 0);
    fault(2, "a0s", 1);
    fault(2, "a:s", 1);
    for (char c : "rtkmSL".toCharArray()) {
      fault(2, "a1" + c, 2);
    }
    LogFlume x = typed(2, "a1s;x9l");
    Due.is("MINUTE of a", x.log(0, 0), 0);
    Due.is("MINUTE of x", x.log(1, 0), 23);
    Due.is("DRAUGHT 1", x.log(0, 1), 1);
    Due.is("DRAUGHT 9", x.log(1, 1), 9);
    Due.is("short", x.log(0, 2), 0);
    Due.is("long", x.log(1, 2), 1);
  }

  private static void faultIsTheFirst() {
    Says.terms("The FAULT of a text is the place of the first byte with which it cannot go on");
    fault(0, "0000", 0);
    fault(0, "1404", 1);
    fault(0, "3333333333333334", 15);
    fault(1, "x9x", 0);
    fault(1, "999999999999999x", 15);
    fault(2, "zzz", 0);
    fault(2, "a1s;z", 4);
    fault(2, EIGHT.substring(0, 30) + ";", 30);
    LogFlume x = new LogFlume();
    Due.is("byte 0", x.type(0, 0), 1);
    Due.is("byte 255", x.type(0, 255), 2);
    Due.is("the first of them", x.fault(0), 0);
    LogFlume y = new LogFlume();
    Due.is("byte 255", y.type(1, 255), 1);
    Due.is("its fault", y.fault(1), 0);
  }

  private static void faultOfNone() {
    Says.terms("(an empty one is well;");
    for (int text = 0; text < 3; text++) {
      LogFlume x = new LogFlume();
      Due.is("never typed", x.fault(text), NONE);
      x.type(text, '*');
      Due.is("a fault", x.fault(text), 0);
      x.undo(text);
      Due.is("undone", x.fault(text), NONE);
      x.type(text, '*');
      x.wipe(text);
      Due.is("wiped", x.fault(text), NONE);
    }
  }

  private static void faultOfOneNotEnded() {
    Says.terms("of one that is not ended, its end),");
    for (int n = 0; n <= 31; n++) {
      boolean ended = n == 0 || n % 4 == 3;
      fault(2, EIGHT.substring(0, n), ended ? NONE : n);
    }
    fault(0, "1", NONE);
    fault(1, "1", NONE);
  }

  private static void faultOfNinth() {
    // The 31 bytes end with the eighth, so that no byte of a ninth can come.
    Says.terms("here also of the first byte of a ninth LOG.");
    LogFlume x = typed(2, EIGHT);
    for (int b = 0; b < 256; b++) {
      Due.is("byte " + b + " behind eight", x.type(2, b), FULL);
    }
    Due.is("no fault", x.fault(2), NONE);
    Due.is("eight", x.count(0), 8);
  }

  private static void withFault() {
    Says.terms("With a FAULT a text is as if it was empty.");
    LogFlume x = Due.told("333", "999", "a1s;b1s");
    Due.is("slope", x.span(2, 0), 3);
    x.type(0, '0');
    Due.is("slope with a fault behind it", x.span(2, 0), 1);
    Due.is("other texts stay", x.span(2, 1), 9);
    x.type(1, 'x');
    Due.is("feeder with a fault", x.span(0, 1), 0);
    Due.is("no water", x.all(23, 0), 0);
    Due.is("logs stay", x.count(0), 2);
    x.type(2, ';');
    Due.is("not ended: no logs", x.count(0), 0);
    Due.is("log(0, 0)", x.log(0, 0), BAD);
    Due.is("at(0, 0, 0)", x.at(0, 0, 0), BAD);
    Due.is("who lies there", x.flume(0, 0, 1), NONE);
    Due.is("the bytes stay", x.count(1), 3 + 3 + 7 + 3);
    for (int text = 0; text < 3; text++) {
      x.undo(text);
    }
    Due.is("slope again", x.span(2, 0), 3);
    Due.is("water again", x.flume(0, 2, 0), 9);
    Due.is("logs again", x.count(0), 2);
  }

  private static void newObject() {
    Says.promise(1, "No SLOPES, FEEDERS, LOGS told, no EVENTS; all SHEETS are LOST.");
    LogFlume x = new LogFlume();
    for (int what = 0; what <= 8; what++) {
      Due.is("count(" + what + ")", x.count(what), 0);
    }
    for (int text = 0; text < 3; text++) {
      Due.is("wipe(" + text + ")", x.wipe(text), 0);
      Due.is("undo(" + text + ")", x.undo(text), NOT);
    }
    Due.is("back()", x.back(), NOT);
    Due.is("log(0, 0)", x.log(0, 0), BAD);
    Due.is("DRY", x.left(0), 0xffff);
    for (int s = 0; s < 4; s++) {
      Due.is("lose(" + s + ")", x.lose(s), -11);
    }
  }

  private static void typing() {
    Says.promise(2, "A byte (0 to 255) comes behind a text: how many.");
    for (int text = 0; text < 3; text++) {
      LogFlume x = new LogFlume();
      Due.is("type(" + text + ", -1)", x.type(text, -1), BAD);
      Due.is("type(" + text + ", 256)", x.type(text, 256), BAD);
      Due.is("type(" + text + ", least)", x.type(text, LEAST), BAD);
      Due.is("type(" + text + ", most)", x.type(text, MOST), BAD);
      // A byte and 256 more is no byte, though its lowest bits are.
      Due.is("type(" + text + ", 305)", x.type(text, 256 + '1'), BAD);
      Due.is("type(" + text + ", 0)", x.type(text, 0), 1);
      Due.is("type(" + text + ", 255)", x.type(text, 255), 2);
    }
  }

  private static void typingRefused() {
    Says.promise(2, "BAD; FULL.");
    LogFlume x = full();
    for (int text : new int[] {LEAST, -1, 3, MOST}) {
      Due.is("type(" + text + ", 49)", x.type(text, 49), BAD);
    }
    for (int text = 0; text < 3; text++) {
      int most = FULL_TEXTS[text].length();
      Due.is("full", x.type(text, FULL_TEXTS[text].charAt(0)), FULL);
      Due.is("full, for any byte", x.type(text, 0), FULL);
      Due.is("BAD ahead of FULL", x.type(text, 256), BAD);
      Due.is("one undone", x.undo(text), most - 1);
      Due.is("so one fits", x.type(text, FULL_TEXTS[text].charAt(most - 1)), most);
      Due.is("and no other", x.type(text, '1'), FULL);
      Due.is("it is as it was", x.fault(text), NONE);
    }
    Due.is("bytes", x.count(1), 16 + 16 + 31);
  }

  private static void wiping() {
    Says.promise(3, "A text is empty: how many bytes it had.");
    LogFlume x = full();
    Due.is("16", x.wipe(0), 16);
    Due.is("the others stay", x.count(1), 16 + 31);
    Due.is("none now", x.wipe(0), 0);
    Due.is("31", x.wipe(2), 31);
    Due.is("16", x.wipe(1), 16);
    Due.is("no bytes", x.count(1), 0);
    Due.is("typed from the first place on", x.type(2, 'a'), 1);
    Due.is("of a faulty one", x.wipe(2), 1);
  }

  private static void wipingRefused() {
    Says.promise(3, "BAD.");
    LogFlume x = full();
    for (int text : new int[] {LEAST, -1, 3, MOST}) {
      Due.is("wipe(" + text + ")", x.wipe(text), BAD);
    }
    Due.is("nothing is wiped", x.count(1), 63);
  }

  private static void undoing() {
    Says.promise(4, "The last byte of a text is undone: how many are left.");
    LogFlume x = full();
    for (int left = 30; left >= 0; left--) {
      Due.is("undo(2)", x.undo(2), left);
      Due.is("LOGS", x.count(0), left % 4 == 3 ? (left + 1) / 4 : 0);
    }
    Due.is("the others stay", x.count(1), 32);
    Due.is("undo(0)", x.undo(0), 15);
    Due.is("the last one is gone", x.span(15, 0), 1);
    Due.is("the one ahead stays", x.span(14, 0), 3);
  }

  private static void undoingRefused() {
    Says.promise(4, "BAD; NOT: it is empty.");
    LogFlume x = typed(1, "1");
    for (int text : new int[] {LEAST, -1, 3, MOST}) {
      Due.is("undo(" + text + ")", x.undo(text), BAD);
    }
    Due.is("undo(0)", x.undo(0), NOT);
    Due.is("undo(2)", x.undo(2), NOT);
    Due.is("undo(1)", x.undo(1), 0);
    Due.is("undo(1)", x.undo(1), NOT);
    Due.is("behind it, type(1, 49)", x.type(1, 49), 1);
  }

  private static void faultAsked() {
    Says.promise(5, "The FAULT of a text; NONE.");
    LogFlume x = Due.told("12x", "x", "a1s;b2s");
    Due.is("fault(0)", x.fault(0), 2);
    Due.is("fault(1)", x.fault(1), 0);
    Due.is("fault(2)", x.fault(2), NONE);
    Says.promise(5, "BAD.");
    for (int text : new int[] {LEAST, -1, 3, MOST}) {
      Due.is("fault(" + text + ")", x.fault(text), BAD);
    }
  }

  private static void spanAsked() {
    Says.promise(6, "The SLOPE (what = 0), the FEEDER (1) of a SPAN as told.");
    LogFlume x = full();
    for (int s = 0; s < 16; s++) {
      Due.is("span(" + s + ", 0)", x.span(s, 0), 1 + s % 3);
      Due.is("span(" + s + ", 1)", x.span(s, 1), s % 10);
    }
    for (int minute = 0; minute < 8; minute++) {
      x.event(1, minute, 9);
    }
    Due.is("SHUT, but told so", x.span(9, 1), 9);
  }

  private static void spanRefused() {
    Says.promise(6, "BAD.");
    LogFlume x = full();
    for (int wrong : new int[] {LEAST, -1, 16, MOST}) {
      Due.is("span(" + wrong + ", 0)", x.span(wrong, 0), BAD);
      Due.is("span(" + wrong + ", 1)", x.span(wrong, 1), BAD);
    }
    for (int wrong : new int[] {LEAST, -1, 2, MOST}) {
      Due.is("span(0, " + wrong + ")", x.span(0, wrong), BAD);
      Due.is("span(15, " + wrong + ")", x.span(15, wrong), BAD);
    }
  }

  private static void logAsked() {
    Says.promise(7, "The MINUTE (what = 0), DRAUGHT (1), whether it is long (2: 0 s, 1 l) of a LOG as told.");
    LogFlume x = full();
    int[][] want = {{0, 1, 0}, {1, 2, 1}, {2, 3, 0}, {3, 4, 1}, {4, 5, 0}, {5, 6, 1}, {6, 7, 0}, {23, 9, 1}};
    for (int log = 0; log < 8; log++) {
      for (int what = 0; what < 3; what++) {
        Due.is("log(" + log + ", " + what + ")", x.log(log, what), want[log][what]);
      }
    }
  }

  private static void logRefused() {
    Says.promise(7, "BAD.");
    LogFlume x = full();
    for (int wrong : new int[] {LEAST, -1, 8, MOST}) {
      Due.is("log(" + wrong + ", 0)", x.log(wrong, 0), BAD);
    }
    for (int wrong : new int[] {LEAST, -1, 3, MOST}) {
      Due.is("log(7, " + wrong + ")", x.log(7, wrong), BAD);
    }
    LogFlume y = typed(2, "a1s");
    Due.is("the only one", y.log(0, 2), 0);
    Due.is("no second one", y.log(1, 2), BAD);
    y.wipe(2);
    Due.is("none", y.log(0, 2), BAD);
  }
}
