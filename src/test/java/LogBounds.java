/** Bounds of what LOGS do in a MINUTE. */
final class LogBounds {
  private static final int NONE = LogFlume.NONE;
  private static final int AFLOAT = 0, AGROUND = 1, BLOCKED = 2, OUT = 16;
  private static final String NINES = "9999999999999999";
  private static final String THREES = "3333333333333333";

  private LogBounds() {}

  static void all() {
    lowestFirst();
    ofThoseThatWait();
    waitsFromItsMinuteOn();
    isPutInIfNoOtherLiesThere();
    doesNothingElse();
    whoWaits();
    bySlopeOfTheFirst();
    onePoleMore();
    byAsMuchWater();
    byAPole();
    elseAground();
    elseBlocked();
    agroundAheadOfBlocked();
    mayHaveGoneOn();
    shortAndLong();
    headInTheFirst();
    behindTheLast();
  }

  private static void at(LogFlume x, int minute, int log, int head, int state) {
    Due.is("head of " + log + " behind " + minute, x.at(minute, log, 0), head);
    Due.is("state of " + log + " in " + minute, x.at(minute, log, 1), state);
  }

  private static void lowestFirst() {
    Says.terms("Then LOGS that are not OUT, the one whose head is lowest first, of like ones,");
    for (String logs : new String[] {"a1s;b1s", "b1s;a1s"}) {
      LogFlume x = Due.told("", NINES, logs);
      int first = x.log(0, 0);
      at(x, 2, first, 2, AFLOAT);
      at(x, 2, 1 - first, 1, AFLOAT);
      at(x, 15, first, 15, AFLOAT);
      at(x, 15, 1 - first, 14, AFLOAT);
      at(x, 16, first, OUT, AFLOAT);
      at(x, 16, 1 - first, 15, AFLOAT);
    }
  }

  private static void ofThoseThatWait() {
    Says.terms("and of those that WAIT, the one of the least number:");
    LogFlume x = Due.told("", NINES, "c1s;a1s;a1s;a1s");
    at(x, 0, 1, 0, AFLOAT);
    at(x, 0, 2, NONE, AFLOAT);
    at(x, 1, 2, 0, AFLOAT);
    at(x, 1, 3, NONE, AFLOAT);
    // The third has waited from the first minute on, but the first has the least number.
    at(x, 2, 0, 0, AFLOAT);
    at(x, 2, 3, NONE, AFLOAT);
    at(x, 3, 3, 0, AFLOAT);
  }

  private static void waitsFromItsMinuteOn() {
    Says.terms("one WAITS from its MINUTE on, and is put into SPAN 0,");
    at(Due.told("", "", "a1s"), 0, 0, 0, AFLOAT);
    LogFlume x = Due.told("", "", "b1s;x9l");
    at(x, 0, 0, NONE, AFLOAT);
    at(x, 1, 0, 0, AFLOAT);
    LogFlume y = Due.told("", "", "x9l");
    at(y, 22, 0, NONE, AFLOAT);
    at(y, 23, 0, 0, AFLOAT);
  }

  private static void isPutInIfNoOtherLiesThere() {
    Says.terms("if no other one lies in that");
    LogFlume x = Due.told("", "", "a1s;a1s");
    at(x, 23, 0, 0, AGROUND);
    at(x, 23, 1, NONE, AFLOAT);
    x.event(0, 23, 0);
    at(x, 22, 1, NONE, AFLOAT);
    at(x, 23, 0, 2, AFLOAT);
    at(x, 23, 1, 0, AFLOAT);
    // The long one's head is in the next one, but it lies in this one too.
    LogFlume y = Due.told("", "9", "a9l;a1s");
    at(y, 1, 0, 1, AFLOAT);
    at(y, 23, 0, 1, AGROUND);
    at(y, 23, 1, NONE, AFLOAT);
    LogFlume z = Due.told("", "9", "a9s;a1s");
    at(z, 1, 0, 1, AFLOAT);
    at(z, 1, 1, 0, AFLOAT);
  }

  private static void doesNothingElse() {
    Says.terms("(that is all that it does in this MINUTE;");
    LogFlume x = Due.told("3", NINES, "a1s");
    x.event(0, 0, 0);
    at(x, 0, 0, 0, AFLOAT);
    at(x, 1, 0, 3, AFLOAT);
    LogFlume y = Due.told("3", "", "a9s");
    at(y, 0, 0, 0, AFLOAT);
    at(y, 1, 0, 0, AGROUND);
  }

  private static void whoWaits() {
    Says.terms("who WAITS is neither AGROUND nor BLOCKED).");
    LogFlume x = Due.told("", "", "a1s;a1s");
    for (int minute = 0; minute < 24; minute++) {
      at(x, minute, 1, NONE, AFLOAT);
    }
    Due.is("LAIN", x.out(1, 1), 0);
    Due.is("HELD", x.out(1, 2), 0);
    Due.is("JAM", x.jam(), NONE);
    x.event(0, 5, 1);
    at(x, 5, 1, NONE, AFLOAT);
    at(x, 6, 1, NONE, AFLOAT);
  }

  private static void bySlopeOfTheFirst() {
    Says.terms("One in the flume goes on by SPANS, one behind the other, as many as the SLOPE of that in which its head lies at first,");
    int[][] rows = {{1, 1}, {2, 2}, {3, 3}};
    for (int[] row : rows) {
      at(Due.told("" + row[0], NINES, "a1s"), 1, 0, row[1], AFLOAT);
    }
    LogFlume x = Due.told("213", NINES, "a1s");
    at(x, 1, 0, 2, AFLOAT);
    at(x, 2, 0, 5, AFLOAT);
    at(x, 3, 0, 6, AFLOAT);
    LogFlume y = Due.told("133", NINES, "a1s");
    at(y, 1, 0, 1, AFLOAT);
    at(y, 2, 0, 4, AFLOAT);
  }

  private static void onePoleMore() {
    Says.terms("or 1 more by a POLE (one, however many):");
    for (int slope = 1; slope <= 3; slope++) {
      LogFlume x = Due.told("" + slope, NINES, "a1s");
      at(x, 1, 0, slope, AFLOAT);
      for (int poles = 1; poles <= 8; poles++) {
        x.event(0, 1, 0);
        at(x, 1, 0, slope + 1, AFLOAT);
      }
    }
  }

  private static void byAsMuchWater() {
    Says.terms("into the next one, if there is as much WATER as its DRAUGHT in that in which its head lies,");
    for (int water = 1; water <= 9; water++) {
      for (int draught = 1; draught <= 9; draught++) {
        LogFlume x = Due.told("", "" + water, "a" + draught + "s");
        boolean goes = water >= draught;
        at(x, 1, 0, goes ? 1 : 0, goes ? AFLOAT : AGROUND);
      }
    }
    // A long one's tail needs none.
    LogFlume y = Due.told("", "0999", "b5l");
    y.event(0, 2, 0);
    at(y, 2, 0, 2, AFLOAT);
    y.event(2, 3, 1);
    at(y, 3, 0, 3, AFLOAT);
  }

  private static void byAPole() {
    Says.terms("or a POLE for it in this MINUTE;");
    LogFlume x = Due.told("", "", "a9s");
    Due.events(x, new int[] {0, 1, 0}, new int[] {0, 3, 0});
    at(x, 1, 0, 2, AFLOAT);
    at(x, 2, 0, 2, AGROUND);
    at(x, 3, 0, 4, AFLOAT);
    at(x, 4, 0, 4, AGROUND);
    LogFlume y = Due.told("", "", "a9s");
    y.event(0, 1, 1);
    at(y, 1, 0, 0, AGROUND);
  }

  private static void elseAground() {
    Says.terms("else it is AGROUND in this MINUTE, and stays;");
    LogFlume x = Due.told("", NINES, "a1s");
    x.event(2, 3, 2);
    at(x, 2, 0, 2, AFLOAT);
    at(x, 3, 0, 2, AGROUND);
    at(x, 4, 0, 3, AFLOAT);
    LogFlume y = Due.told("", "", "a1s");
    at(y, 1, 0, 0, AGROUND);
    at(y, 23, 0, 0, AGROUND);
    LogFlume z = Due.told("", NINES, "a1s");
    z.event(2, 16, 15);
    at(z, 15, 0, 15, AFLOAT);
    at(z, 16, 0, 15, AGROUND);
    at(z, 17, 0, OUT, AFLOAT);
  }

  private static void elseBlocked() {
    Says.terms("and if no other one lies in the next SPAN, else it is BLOCKED in this MINUTE, and stays.");
    LogFlume x = Due.told("", NINES, "a1s;b1s;d1s");
    x.event(2, 4, 3);
    at(x, 3, 0, 3, AFLOAT);
    at(x, 3, 1, 2, AFLOAT);
    at(x, 3, 2, 0, AFLOAT);
    at(x, 4, 0, 3, AGROUND);
    at(x, 4, 1, 2, BLOCKED);
    at(x, 4, 2, 1, AFLOAT);
    at(x, 5, 0, 4, AFLOAT);
    at(x, 5, 1, 3, AFLOAT);
    at(x, 5, 2, 2, AFLOAT);
    LogFlume y = Due.told("", NINES, "a1l;c1s");
    y.event(2, 4, 3);
    at(y, 4, 0, 3, AGROUND);
    at(y, 4, 1, 1, BLOCKED);
  }

  private static void agroundAheadOfBlocked() {
    Says.terms("(AGROUND goes ahead of BLOCKED;");
    LogFlume x = Due.told("", "9", "a9s;a9s");
    at(x, 2, 0, 1, AGROUND);
    at(x, 2, 1, 0, BLOCKED);
    x.event(2, 2, 0);
    at(x, 2, 1, 0, AGROUND);
    x.event(0, 2, 1);
    at(x, 2, 1, 0, BLOCKED);
    Due.is("HELD", x.out(1, 2), 22);
    x.back();
    Due.is("HELD", x.out(1, 2), 21);
    Due.is("LAIN", x.out(1, 1), 1);
  }

  private static void mayHaveGoneOn() {
    Says.terms("it may have gone on ahead of either in this MINUTE.)");
    LogFlume x = Due.told("3", "4", "a3s");
    at(x, 1, 0, 2, AGROUND);
    LogFlume y = Due.told("3", NINES, "a1s;a1s");
    y.event(2, 2, 3);
    at(y, 1, 0, 3, AFLOAT);
    at(y, 2, 0, 3, AGROUND);
    at(y, 2, 1, 2, BLOCKED);
    // By a pole, with the way free for one SPAN of the two.
    LogFlume z = Due.told("", "8", "a9s;a9s");
    Due.events(z, new int[] {0, 1, 0}, new int[] {0, 2, 1});
    at(z, 2, 0, 2, AGROUND);
    at(z, 2, 1, 1, BLOCKED);
  }

  private static void who(LogFlume x, int minute, int... want) {
    for (int s = 0; s < 16; s++) {
      Due.is("who lies in " + s + " behind " + minute, x.flume(minute, s, 1), s < want.length ? want[s] : NONE);
    }
  }

  private static void shortAndLong() {
    Says.terms("A short one lies in the SPAN of its head alone, a long one also in the SPAN above that (its number 1 less),");
    LogFlume x = Due.told("", NINES, "a1s");
    who(x, 0, 0);
    who(x, 1, NONE, 0);
    who(x, 2, NONE, NONE, 0);
    LogFlume y = Due.told("", NINES, "a1l");
    who(y, 1, 0, 0);
    who(y, 2, NONE, 0, 0);
    who(y, 15, NONE, NONE, NONE, NONE, NONE, NONE, NONE, NONE, NONE, NONE, NONE, NONE, NONE, NONE, 0, 0);
  }

  private static void headInTheFirst() {
    Says.terms("if its head is not in SPAN 0.");
    LogFlume x = Due.told("", "", "a1l");
    who(x, 0, 0);
    who(x, 23, 0);
    Due.is("in the flume", x.all(23, 1), 1);
  }

  private static void behindTheLast() {
    Says.terms("Behind SPAN 15 it is OUT, and lies nowhere.");
    LogFlume x = Due.told("", NINES, "a1l");
    at(x, 15, 0, 15, AFLOAT);
    at(x, 16, 0, OUT, AFLOAT);
    at(x, 23, 0, OUT, AFLOAT);
    who(x, 16);
    // From 13 by 3 and a pole: what is behind 16 does not count.
    LogFlume y = Due.told(THREES, NINES, "a1s");
    Due.events(y, new int[] {0, 1, 0});
    int[] heads = {0, 4, 7, 10, 13, OUT, OUT};
    for (int minute = 0; minute < heads.length; minute++) {
      at(y, minute, 0, heads[minute], AFLOAT);
    }
    y.event(0, 5, 0);
    at(y, 5, 0, OUT, AFLOAT);
    // The long one lay in 15 and 14; in the minute in which it is OUT the next one comes to both.
    LogFlume z = Due.told("1111111111111211", NINES, "a1l;a1s");
    Due.events(z, new int[] {2, 15, 15}, new int[] {2, 16, 15});
    at(z, 16, 0, 15, AGROUND);
    at(z, 16, 1, 13, BLOCKED);
    at(z, 17, 0, OUT, AFLOAT);
    at(z, 17, 1, 15, AFLOAT);
    Due.is("it lies in 15", z.flume(17, 15, 1), 1);
    Due.is("none in 14", z.flume(17, 14, 1), NONE);
  }
}
