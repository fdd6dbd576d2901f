/** Bounds of SEEN, NEVER, DRAUGHTS, GRADE and ASK, and promises 22 to 27. */
final class SeenBounds {
  private static final int BAD = LogFlume.BAD, FULL = LogFlume.FULL;
  private static final int LEAST = Integer.MIN_VALUE, MOST = Integer.MAX_VALUE;
  private static final String NINES = "9999999999999999";
  private static final int ALL_DRAUGHTS = 0x3fe, ALL_GRADES = 0xe;

  private SeenBounds() {}

  static void all() {
    eightAtMost();
    aLogOrNone();
    neverWithNothingSeen();
    neverOneAlone();
    draughtsInPlace();
    gradesInPlace();
    askWhenHeadsDiffer();
    askOfLikeOnes();
    askOfThoseOfDraughts();
    seeing();
    seeingRefused();
    forgetting();
    neverAsked();
    draughtsAsked();
    gradeAsked();
    askAsked();
  }

  private static LogFlume seen(LogFlume x, int[]... rows) {
    x.forget();
    for (int i = 0; i < rows.length; i++) {
      Due.is("seen", x.seen(rows[i][0], rows[i][1], rows[i][2]), i + 1);
    }
    return x;
  }

  private static void eightAtMost() {
    Says.terms("SEEN, 8 at most: behind a MINUTE in a SPAN lay a LOG");
    LogFlume x = Due.told("", "5", "a5s");
    for (int i = 0; i < 7; i++) {
      Due.is("seen", x.seen(0, 0, 0), i + 1);
    }
    Due.is("all hold", x.draughts(0), ALL_DRAUGHTS);
    Due.is("the eighth", x.seen(1, 0, 0), 8);
    Due.is("it holds too", x.draughts(0), 0x3c0);
    Due.is("a ninth", x.seen(1, 1, 0), FULL);
    Due.is("eight stay", x.count(7), 8);
    Due.is("the ninth does not hold", x.draughts(0), 0x3c0);
  }

  private static void aLogOrNone() {
    Says.terms("(0 to 7; 8: none).");
    LogFlume x = new LogFlume();
    Due.is("LOG -1", x.seen(0, 0, -1), BAD);
    Due.is("LOG 9", x.seen(0, 0, 9), BAD);
    Due.is("none: so it is", seen(x, new int[] {0, 0, 8}).grade(0), ALL_GRADES);
    Due.is("LOG 0, that is not told", seen(x, new int[] {0, 0, 0}).grade(0), 0);
    Due.is("LOG 7, that is not told", seen(x, new int[] {0, 0, 7}).grade(0), 0);
    LogFlume y = Due.told("", NINES, "a1s;a1s;a1s;a1s;a1s;a1s;a1s;a1l");
    Due.is("LOG 7", seen(y, new int[] {7, 0, 7}).grade(15), ALL_GRADES);
    Due.is("none, where one lies", seen(y, new int[] {7, 0, 8}).grade(15), 0);
    Due.is("another one", seen(y, new int[] {7, 0, 6}).grade(15), 0);
    Due.is("its tail is seen too", seen(y, new int[] {22, 14, 7}, new int[] {22, 15, 7}).grade(15), ALL_GRADES);
    Due.is("OUT, it lies nowhere", seen(y, new int[] {23, 15, 8}, new int[] {23, 14, 8}).grade(15), ALL_GRADES);
  }

  private static void neverWithNothingSeen() {
    Says.terms("NEVER: EVENTS each of which, had it alone not been, makes all that was SEEN come out so, as bits.");
    LogFlume x = Due.told("", NINES, "h1s");
    Due.is("no EVENTS", x.never(), 0);
    for (int i = 0; i < 8; i++) {
      x.event(2, 10, 2);
      Due.is("all that are", x.never(), (1 << i + 1) - 1);
    }
    seen(x, new int[] {0, 0, 0});
    Due.is("what never came", x.never(), 0);
  }

  /** Seven EVENTS that do nothing and, at last, a burst that keeps the log in 2 for MINUTE 10. */
  private static LogFlume keptInTwo() {
    LogFlume x = Due.told("", NINES, "h1s");
    for (int i = 0; i < 7; i++) {
      x.event(0, 5, 15);
    }
    x.event(2, 10, 2);
    return x;
  }

  private static void neverOneAlone() {
    Says.terms("NEVER: EVENTS each of which, had it alone not been, makes all that was SEEN come out so, as bits.");
    Due.is("the eighth", seen(keptInTwo(), new int[] {10, 3, 0}).never(), 0x80);
    Due.is("any but the eighth", seen(keptInTwo(), new int[] {10, 2, 0}).never(), 0x7f);
    Due.is("not both", seen(keptInTwo(), new int[] {10, 2, 0}, new int[] {10, 3, 0}).never(), 0);
    LogFlume x = Due.told("", NINES, "h1s");
    Due.events(x, new int[] {2, 10, 2}, new int[] {2, 10, 2});
    Due.is("two alike, neither alone", seen(x, new int[] {10, 3, 0}).never(), 0);
    LogFlume y = Due.told("", NINES, "h1s");
    Due.events(y, new int[] {2, 10, 2});
    Due.is("the first", seen(y, new int[] {10, 3, 0}).never(), 1);
  }

  private static void draughtsInPlace() {
    Says.terms("DRAUGHTS of a LOG: 1 to 9, in place of its own, likewise, as bits (bit 1 on).");
    for (int own = 1; own <= 9; own += 4) {
      for (int water = 0; water <= 9; water++) {
        LogFlume x = Due.told("", "" + water, "a" + own + "s");
        Due.is("nothing seen", x.draughts(0), ALL_DRAUGHTS);
        int afloat = (1 << water + 1) - 2;
        Due.is("gone on by " + water, seen(x, new int[] {1, 1, 0}).draughts(0), afloat);
        Due.is("not gone on by " + water, seen(x, new int[] {1, 0, 0}).draughts(0), ALL_DRAUGHTS & ~afloat);
        Due.is("its own stays", x.log(0, 1), own);
      }
    }
  }

  private static void gradesInPlace() {
    Says.terms("GRADE of a SPAN: 1 to 3, in place of its own, likewise, as bits (bit 1 on).");
    for (int own = 1; own <= 3; own++) {
      LogFlume x = Due.told("" + own, NINES, "a1s");
      Due.is("nothing seen", x.grade(0), ALL_GRADES);
      for (int came = 0; came <= 4; came++) {
        int want = came >= 1 && came <= 3 ? 1 << came : 0;
        Due.is("came to " + came, seen(x, new int[] {1, came, 0}).grade(0), want);
      }
      Due.is("its own stays", x.span(0, 0), own);
    }
    // From the last one it is OUT by any slope.
    LogFlume y = Due.told("", NINES, "a1s");
    Due.is("the last", seen(y, new int[] {15, 15, 0}, new int[] {16, 15, 8}).grade(15), ALL_GRADES);
    Due.is("the last, in vain", seen(y, new int[] {16, 15, 0}).grade(15), 0);
    Due.is("the last but one", seen(y, new int[] {15, 15, 8}).grade(14), 0xc);
  }

  private static void askWhenHeadsDiffer() {
    Says.terms("ASK of a LOG: the MINUTE behind which the greatest number of those of DRAUGHTS "
        + "by which the heads of all LOGS are in the like SPANS is least,");
    Due.is("9 alike behind 22, 5 behind 23", Due.told("", "5", "w1s").ask(0), 23);
    Due.is("5 alike behind 22, 4 behind 23", Due.told("", "5", "v1s").ask(0), 23);
    Due.is("5 alike behind 1, 4 behind 2 and later", Due.told("", "5", "a1s").ask(0), 2);
    Due.is("one less in each MINUTE, until 1", Due.told("", "8", "a1s").ask(0), 8);
    // Behind 2 six are alike. Behind 16 the log is OUT by eight, but by five of these the other
    // one is in 15 still, so that by the heads of both no more than five are alike.
    LogFlume x = Due.told("23", "9638", "a7s;a5s");
    x.event(2, 1, 1);
    Due.is("by the heads of both", x.ask(0), 16);
    // The second is OUT ahead of the first, which lies in 1 or in 2 from 18 on if it is 9 or 8 deep.
    LogFlume y = Due.told("", "9000000001111111", "q1s;a1s");
    Due.is("8 and 9", seen(y, new int[] {19, 3, 8}).draughts(0), 0x300);
    Due.is("one SPAN tells", y.ask(0), 18);
  }

  private static void askOfLikeOnes() {
    Says.terms("of like ones the least. CHANCE");
    Due.is("put in in the last MINUTE", Due.told("", "5", "x1s").ask(0), 0);
    Due.is("no WATER", Due.told("", "", "a1s").ask(0), 0);
    Due.is("WATER for all", Due.told("", NINES, "a1s").ask(0), 0);
    Due.is("1 goes on, the others stay", Due.told("", "1", "a1s").ask(0), 1);
  }

  private static void askOfThoseOfDraughts() {
    Says.terms("those of DRAUGHTS by which");
    LogFlume x = Due.told("", "5", "a3s");
    Due.is("of all", x.ask(0), 2);
    Due.is("of 6 to 9", seen(x, new int[] {23, 0, 0}).ask(0), 0);
    Due.is("of 5 to 9", seen(x, new int[] {2, 2, 8}).ask(0), 1);
    Due.is("of one", seen(x, new int[] {23, 1, 0}).ask(0), 0);
    Due.is("of none", seen(x, new int[] {0, 1, 0}).ask(0), 0);
  }

  private static void seeing() {
    Says.promise(22, "SEEN more: how many.");
    LogFlume x = new LogFlume();
    Due.is("the least", x.seen(0, 0, 0), 1);
    Due.is("the greatest", x.seen(23, 15, 8), 2);
    Due.is("once more", x.seen(23, 15, 8), 3);
    Due.is("what cannot be at once", x.seen(23, 15, 7), 4);
    Due.is("count(7)", x.count(7), 4);
  }

  private static void seeingRefused() {
    Says.promise(22, "BAD; FULL.");
    LogFlume x = new LogFlume();
    for (int filled = 0; filled < 2; filled++) {
      for (int m : new int[] {LEAST, -1, 24, MOST}) Due.is("MINUTE " + m, x.seen(m, 0, 0), BAD);
      for (int s : new int[] {LEAST, -1, 16, MOST}) Due.is("SPAN " + s, x.seen(0, s, 0), BAD);
      for (int log : new int[] {LEAST, -1, 9, MOST}) Due.is("LOG " + log, x.seen(0, 0, log), BAD);
      Due.is("count(7)", x.count(7), 8 * filled);
      for (int i = 0; filled == 0 && i < 8; i++) {
        Due.is("seen", x.seen(23, 15, 8), i + 1);
      }
    }
    Due.is("FULL", x.seen(23, 15, 8), FULL);
  }

  private static void forgetting() {
    Says.promise(23, "All SEEN are forgotten: how many.");
    LogFlume x = new LogFlume();
    Due.is("none", x.forget(), 0);
    for (int i = 0; i < 8; i++) {
      x.seen(0, 0, 0);
    }
    Due.is("what is seen cannot be", x.grade(0), 0);
    Due.is("eight", x.forget(), 8);
    Due.is("none", x.forget(), 0);
    Due.is("nothing is seen", x.grade(0), ALL_GRADES);
    Due.is("eight fit again", x.seen(0, 0, 8), 1);
  }

  private static void neverAsked() {
    Says.promise(24, "NEVER, as bits.");
    Due.is("never()", new LogFlume().never(), 0);
    Due.is("never()", keptInTwo().never(), 0xff);
  }

  private static void draughtsAsked() {
    Says.promise(25, "DRAUGHTS, as bits.");
    LogFlume x = Due.told("", "5", "a1s;b1s;c1s;d1s;e1s;f1s;g1s;h1s");
    Due.is("draughts(0)", x.draughts(0), ALL_DRAUGHTS);
    Due.is("draughts(7)", x.draughts(7), ALL_DRAUGHTS);
    Says.promise(25, "BAD.");
    for (int log : new int[] {LEAST, -1, 8, MOST}) Due.is("draughts(" + log + ")", x.draughts(log), BAD);
    Due.is("of one, a second", Due.told("", "", "a1s").draughts(1), BAD);
    Due.is("of none, a first", new LogFlume().draughts(0), BAD);
  }

  private static void gradeAsked() {
    Says.promise(26, "GRADE, as bits.");
    LogFlume x = new LogFlume();
    Due.is("grade(0)", x.grade(0), ALL_GRADES);
    Due.is("grade(15)", x.grade(15), ALL_GRADES);
    Says.promise(26, "BAD.");
    for (int s : new int[] {LEAST, -1, 16, MOST}) Due.is("grade(" + s + ")", x.grade(s), BAD);
  }

  private static void askAsked() {
    Says.promise(27, "ASK.");
    LogFlume x = Due.told("", "5", "a1s;x1s;x1s;x1s;x1s;x1s;x1s;x1s");
    Due.is("ask(0)", x.ask(0), 2);
    Due.is("ask(7)", x.ask(7), 0);
    Says.promise(27, "BAD.");
    for (int log : new int[] {LEAST, -1, 8, MOST}) Due.is("ask(" + log + ")", x.ask(log), BAD);
    Due.is("of one, a second", Due.told("", "", "a1s").ask(1), BAD);
    Due.is("of none, a first", new LogFlume().ask(0), BAD);
  }
}
