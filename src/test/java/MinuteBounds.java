/** Bounds of what is behind a MINUTE, and promises 11 to 17. */
final class MinuteBounds {
  private static final int NONE = LogFlume.NONE, BAD = LogFlume.BAD;
  private static final int LEAST = Integer.MIN_VALUE, MOST = Integer.MAX_VALUE;
  private static final String NINES = "9999999999999999";
  private static final String EIGHT = "a1s;a1s;a1s;a1s;a1s;a1s;a1s;a1s";
  private static final int[] NO_MINUTE = {LEAST, -1, 24, MOST};
  private static final int[] NO_SPAN = {LEAST, -1, 16, MOST};
  private static final int[] NO_LOG = {LEAST, -1, 8, MOST};
  private static final int[] NOT_0_OR_1 = {LEAST, -1, 2, MOST};
  private static final int[] NOT_0_TO_2 = {LEAST, -1, 3, MOST};

  private MinuteBounds() {}

  static void all() {
    ofASpan();
    ofALog();
    ofAll();
    whenOut();
    lainAndHeld();
    firstJam();
    dry();
    worst();
    late();
    flumeAsked();
    atAsked();
    allAsked();
    outAsked();
    jamAsked();
    leftAsked();
    worstAsked();
  }

  private static LogFlume eight() {
    return Due.told("", NINES, EIGHT);
  }

  private static void ofASpan() {
    Says.terms("Behind a MINUTE of a SPAN: how much WATER; who lies in it (NONE).");
    LogFlume x = eight();
    Due.is("the most WATER", x.flume(23, 15, 0), 20);
    Due.is("none in it", x.flume(23, 15, 1), NONE);
    Due.is("the first one", x.flume(0, 0, 1), 0);
    Due.is("the eighth one", x.flume(7, 0, 1), 7);
    Due.is("and the first one then", x.flume(7, 7, 1), 0);
    Due.is("no WATER", new LogFlume().flume(23, 15, 0), 0);
  }

  private static void ofALog() {
    Says.terms("Of a LOG: the SPAN of its head (NONE: not put in; 16: OUT); "
        + "whether it is AGROUND (1), BLOCKED (2) in that MINUTE, or neither (0).");
    LogFlume x = eight();
    Due.is("not put in", x.at(6, 7, 0), NONE);
    Due.is("neither", x.at(6, 7, 1), 0);
    Due.is("put in", x.at(7, 7, 0), 0);
    Due.is("in the last one", x.at(22, 7, 0), 15);
    Due.is("OUT", x.at(23, 7, 0), 16);
    Due.is("neither", x.at(23, 7, 1), 0);
    x.event(2, 8, 7);
    for (int log = 0; log < 2; log++) {
      Due.is("head of " + log + " behind 7", x.at(7, log, 0), 7 - log);
      Due.is("neither in 7", x.at(7, log, 1), 0);
      Due.is("it stays in 8", x.at(8, log, 0), 7 - log);
      Due.is("AGROUND, BLOCKED in 8", x.at(8, log, 1), 1 + log);
      Due.is("neither in 9", x.at(9, log, 1), 0);
    }
  }

  private static void ofAll() {
    Says.terms("WATER in all SPANS; how many LOGS are in the flume.");
    LogFlume x = eight();
    Due.is("WATER at first", x.all(0, 0), 16 * 9);
    Due.is("WATER at last", x.all(23, 0), 9 + 17 + 14 * 20);
    int[] in = {1, 2, 3, 4, 5, 6, 7, 8, 8, 8, 8, 8, 8, 8, 8, 8, 7, 6, 5, 4, 3, 2, 1, 0};
    for (int minute = 0; minute < 24; minute++) {
      Due.is("in the flume behind " + minute, x.all(minute, 1), in[minute]);
    }
    Due.is("no WATER", new LogFlume().all(23, 0), 0);
    Due.is("no LOGS", new LogFlume().all(23, 1), 0);
  }

  private static void whenOut() {
    Says.terms("OUT of a LOG: the MINUTE; NONE.");
    LogFlume x = Due.told("", NINES, "a1s;h1s;i1s;x1s");
    Due.is("in 16", x.out(0, 0), 16);
    Due.is("in the last MINUTE", x.out(1, 0), 23);
    Due.is("a MINUTE too late", x.out(2, 0), NONE);
    Due.is("put in in the last MINUTE", x.out(3, 0), NONE);
    LogFlume y = Due.told("3333333333333333", NINES, "a1s");
    Due.events(y, new int[] {0, 1, 0}, new int[] {0, 2, 0}, new int[] {0, 3, 0}, new int[] {0, 4, 0});
    Due.is("as early as can be", y.out(0, 0), 4);
  }

  private static void lainAndHeld() {
    Says.terms("LAIN of a LOG: in how many MINUTES it is AGROUND; HELD: BLOCKED.");
    LogFlume x = Due.told("", "9", "a9s;a1s;x1s");
    int[][] want = {{22, 0}, {0, 22}, {0, 0}};
    for (int log = 0; log < 3; log++) {
      Due.is("LAIN of " + log, x.out(log, 1), want[log][0]);
      Due.is("HELD of " + log, x.out(log, 2), want[log][1]);
    }
    LogFlume y = Due.told("", "", "a1s;x1s");
    Due.is("as long as can be", y.out(0, 1), 23);
    Due.is("never put in", y.out(1, 1), 0);
    LogFlume z = Due.told("", "", "w1s");
    Due.is("in the last MINUTE alone", z.out(0, 1), 1);
  }

  private static void firstJam() {
    Says.terms("JAM: the first MINUTE in which any is BLOCKED; NONE.");
    Due.is("as early as can be", Due.told("", "9", "a9s;a1s").jam(), 2);
    Due.is("the first LOG behind the second", Due.told("", "9", "b1s;a9s").jam(), 2);
    Due.is("the eighth LOG alone", Due.told("", "9", "x1s;x1s;x1s;x1s;x1s;x1s;a9s;b1s").jam(), 2);
    LogFlume x = Due.told("", NINES, "k1s;k1s");
    Due.is("none", x.jam(), NONE);
    x.event(2, 23, 12);
    Due.is("in the last MINUTE", x.jam(), 23);
    x.event(2, 22, 11);
    Due.is("the first of two", x.jam(), 22);
  }

  private static void dry() {
    Says.terms("DRY: SPANS in which there is never any WATER behind a MINUTE, as bits.");
    Due.is("all", new LogFlume().left(0), 0xffff);
    Due.is("none", Due.told("", NINES, "").left(0), 0);
    Due.is("all but the first", Due.told("", "1", "").left(0), 0xfffe);
    Due.is("all but the last", Due.told("", "0000000000000001", "").left(0), 0x7fff);
    Due.is("the last alone", Due.told("", "111111111111111", "").left(0), 0x8000);
    LogFlume x = Due.told("", "2", "");
    Due.is("what comes from above", x.left(0), 0xfffc);
    for (int minute = 0; minute < 8; minute++) {
      x.event(2, minute, 1);
    }
    Due.is("burst for a while", x.left(0), 0xfffc);
  }

  private static void worst() {
    Says.terms("WORST: the LOG that is AGROUND in most MINUTES, of like ones the least; NONE: none ever.");
    Due.is("no LOGS", new LogFlume().worst(), NONE);
    Due.is("none lies", Due.told("", NINES, "a1s").worst(), NONE);
    Due.is("BLOCKED alone is not AGROUND", Due.told("", "9", "a9s;a1s").worst(), 0);
    LogFlume x = eight();
    x.event(2, 8, 1);
    Due.is("the seventh, for a MINUTE", x.worst(), 6);
    x.event(2, 9, 8);
    Due.is("of like ones the least", x.worst(), 0);
    x.event(2, 9, 0);
    Due.is("of three like ones the least", x.worst(), 0);
    x.event(2, 10, 0);
    Due.is("the eighth for two", x.worst(), 7);
  }

  private static void late() {
    Says.terms("LATE: LOGS that are not OUT by MINUTE 23, as bits.");
    Due.is("no LOGS", new LogFlume().left(1), 0);
    Due.is("none, the last in 23", eight().left(1), 0);
    Due.is("the eighth", Due.told("", NINES, EIGHT.replace('a', 'b')).left(1), 0x80);
    Due.is("all", Due.told("", "", EIGHT).left(1), 0xff);
    Due.is("the first", Due.told("", NINES, "x1s;a1s").left(1), 1);
  }

  private static void flumeAsked() {
    Says.promise(11, "WATER (what = 0), who lies there (1; NONE).");
    LogFlume x = eight();
    Due.is("flume(23, 15, 0)", x.flume(23, 15, 0), 20);
    Due.is("flume(22, 15, 1)", x.flume(22, 15, 1), 7);
    Due.is("flume(0, 0, 0)", x.flume(0, 0, 0), 9);
    Due.is("flume(0, 0, 1)", x.flume(0, 0, 1), 0);
    Due.is("flume(0, 15, 1)", x.flume(0, 15, 1), NONE);
    Says.promise(11, "BAD.");
    for (int minute : NO_MINUTE) Due.is("flume(" + minute + ", 0, 0)", x.flume(minute, 0, 0), BAD);
    for (int span : NO_SPAN) Due.is("flume(0, " + span + ", 1)", x.flume(0, span, 1), BAD);
    for (int what : NOT_0_OR_1) Due.is("flume(23, 15, " + what + ")", x.flume(23, 15, what), BAD);
  }

  private static void atAsked() {
    Says.promise(12, "The SPAN of its head (what = 0; NONE, 16), AGROUND, BLOCKED or neither (1: 1, 2, 0).");
    LogFlume x = Due.told("", "9", "a9s;a1s;x1s");
    int[][] want = {{1, 1}, {0, 2}, {NONE, 0}};
    for (int log = 0; log < 3; log++) {
      Due.is("at(23, " + log + ", 0)", x.at(23, log, 0), want[log][0]);
      Due.is("at(23, " + log + ", 1)", x.at(23, log, 1), want[log][1]);
    }
    LogFlume y = eight();
    Due.is("at(0, 0, 0)", y.at(0, 0, 0), 0);
    Due.is("at(23, 7, 0)", y.at(23, 7, 0), 16);
    Says.promise(12, "BAD.");
    for (int minute : NO_MINUTE) Due.is("at(" + minute + ", 0, 0)", y.at(minute, 0, 0), BAD);
    for (int log : NO_LOG) Due.is("at(0, " + log + ", 0)", y.at(0, log, 0), BAD);
    for (int what : NOT_0_OR_1) Due.is("at(23, 7, " + what + ")", y.at(23, 7, what), BAD);
    Due.is("of three, a fourth", x.at(0, 3, 0), BAD);
    Due.is("of none, a first", new LogFlume().at(0, 0, 0), BAD);
  }

  private static void allAsked() {
    Says.promise(13, "WATER in all SPANS (what = 0), how many LOGS are in the flume (1).");
    LogFlume x = eight();
    Due.is("all(0, 0)", x.all(0, 0), 144);
    Due.is("all(15, 1)", x.all(15, 1), 8);
    Due.is("all(23, 1)", x.all(23, 1), 0);
    Says.promise(13, "BAD.");
    for (int minute : NO_MINUTE) Due.is("all(" + minute + ", 0)", x.all(minute, 0), BAD);
    for (int what : NOT_0_OR_1) Due.is("all(23, " + what + ")", x.all(23, what), BAD);
  }

  private static void outAsked() {
    Says.promise(14, "OUT (what = 0; NONE), LAIN (1), HELD (2).");
    LogFlume x = Due.told("", "9", "a9s;a1s");
    int[][] want = {{NONE, 22, 0}, {NONE, 0, 22}};
    for (int log = 0; log < 2; log++) {
      for (int what = 0; what < 3; what++) {
        Due.is("out(" + log + ", " + what + ")", x.out(log, what), want[log][what]);
      }
    }
    LogFlume y = eight();
    Due.is("out(7, 0)", y.out(7, 0), 23);
    Says.promise(14, "BAD.");
    for (int log : NO_LOG) Due.is("out(" + log + ", 0)", y.out(log, 0), BAD);
    for (int what : NOT_0_TO_2) Due.is("out(7, " + what + ")", y.out(7, what), BAD);
    Due.is("of two, a third", x.out(2, 0), BAD);
    Due.is("of none, a first", new LogFlume().out(0, 0), BAD);
  }

  private static void jamAsked() {
    Says.promise(15, "JAM; NONE.");
    Due.is("no LOGS", new LogFlume().jam(), NONE);
    Due.is("one alone", Due.told("", "", "a1s").jam(), NONE);
    Due.is("the earliest", Due.told("", "9", "a9s;a1s").jam(), 2);
  }

  private static void leftAsked() {
    Says.promise(16, "DRY (what = 0), LATE (1), as bits.");
    LogFlume x = Due.told("", "1", "a1s;x1s");
    Due.is("left(0)", x.left(0), 0xfffe);
    Due.is("left(1)", x.left(1), 3);
    Says.promise(16, "BAD.");
    for (int what : NOT_0_OR_1) Due.is("left(" + what + ")", x.left(what), BAD);
  }

  private static void worstAsked() {
    Says.promise(17, "WORST; NONE.");
    Due.is("no LOGS", new LogFlume().worst(), NONE);
    Due.is("none lies", Due.told("", NINES, "a1s;b1s;x1s").worst(), NONE);
    LogFlume x = Due.told("", NINES, "a1s;b1s;v1s");
    x.event(2, 23, 1);
    Due.is("the last of three", x.worst(), 2);
  }
}
