/** Bounds of SEND, STEEP, FILL and SPARE, and promises 18 to 21. */
final class PlanBounds {
  private static final int NONE = LogFlume.NONE, BAD = LogFlume.BAD;
  private static final int LEAST = Integer.MIN_VALUE, MOST = Integer.MAX_VALUE;
  private static final String NINES = "9999999999999999";
  private static final String THREES = "3333333333333333";
  private static final String EIGHT = "a1s;a1s;a1s;a1s;a1s;a1s;a1s;a1s";
  private static final int[] NOT_0_OR_1 = {LEAST, -1, 2, MOST};

  private PlanBounds() {}

  static void all() {
    sendEarliest();
    sendLatest();
    steeperByOne();
    steepThreeAtMost();
    fillByTwo();
    fillNineAtMost();
    spareNoneAtAll();
    spareOneOrTwo();
    spareTheLeastRow();
    spareInVain();
    sendAsked();
    steepAsked();
    fillAsked();
    spareAsked();
    askedInAnyOrder();
  }

  private static void send(LogFlume x, int log, int which, int many) {
    Due.is("send(" + log + ", 0)", x.send(log, 0), which);
    Due.is("send(" + log + ", 1)", x.send(log, 1), many);
  }

  private static void steep(LogFlume x, int which, int many) {
    Due.is("steep(0)", x.steep(0), which);
    Due.is("steep(1)", x.steep(1), many);
  }

  private static void fill(LogFlume x, int which, int many) {
    Due.is("fill(0)", x.fill(0), which);
    Due.is("fill(1)", x.fill(1), many);
  }

  private static void spare(LogFlume x, int many, int first, int second) {
    Due.is("spare(NONE)", x.spare(NONE), many);
    Due.is("spare(0)", x.spare(0), first);
    Due.is("spare(1)", x.spare(1), second);
  }

  private static void sendEarliest() {
    Says.terms("SEND of a LOG: the MINUTE, in place of its own, by which most LOGS are OUT by MINUTE 23,");
    send(Due.told("", NINES, "x1s"), 0, 0, 1);
    send(Due.told("", NINES, EIGHT), 7, 0, 8);
    LogFlume x = Due.told("", NINES, EIGHT.replace('a', 'b'));
    Due.is("OUT as told", x.count(3), 7);
    send(x, 7, 0, 8);
    Due.is("its own stays", x.log(7, 0), 1);
    Due.is("OUT as told still", x.count(3), 7);
  }

  /** A deep log that is never afloat; the other one can be OUT by poles if it is put in at 19. */
  private static LogFlume poled(String logs, int log) {
    LogFlume x = Due.told(THREES, "", logs);
    for (int minute = 20; minute <= 23; minute++) {
      x.event(0, minute, log);
    }
    return x;
  }

  private static void sendLatest() {
    Says.terms("of like ones the least: which; how many. STEEP");
    send(Due.told("", "", "x9l"), 0, 0, 0);
    // At 19 the one of the least number goes in first, and the other one waits for it.
    send(poled("a9s;t1s", 1), 0, 20, 1);
    send(poled("t1s;a9s", 0), 1, 19, 1);
    send(poled("a9s;u1s", 1), 0, 0, 0);
    LogFlume x = Due.told("", NINES, "a1s;h1s");
    send(x, 1, 0, 2);
    send(x, 0, 0, 2);
  }

  /** By slope 3 and a pole it comes to 4; it starts each minute in a SPAN of slope 3, but the last. */
  private static LogFlume lastStep(String slopes, int poles) {
    LogFlume x = Due.told(slopes, NINES, "s1s");
    for (int i = 0; i < poles; i++) {
      x.event(0, 19 + i, 0);
    }
    return x;
  }

  private static void steeperByOne() {
    Says.terms("STEEP: the SPAN that had better be 1 steeper");
    steep(lastStep("3333333333333313", 2), 14, 1);
    LogFlume x = lastStep("3333333333333233", 1);
    steep(x, 13, 1);
    Due.is("its own stays", x.span(13, 0), 2);
    Due.is("OUT as told", x.count(3), 0);
    steep(lastStep("3333333333333133", 1), 0, 0);
  }

  private static void steepThreeAtMost() {
    Says.terms("(3 at most), so that most are OUT, of like ones the least: which; how many.");
    // Were the first one 4, the log would be OUT by that.
    LogFlume x = lastStep("3333333333333233", 1);
    Due.is("in 15 at last", x.at(23, 0, 0), 15);
    steep(x, 13, 1);
    steep(Due.told(THREES, NINES, EIGHT), 0, 8);
    steep(Due.told("", NINES, "i1s"), 0, 1);
    steep(Due.told("3", NINES, "k1s"), 3, 1);
    steep(Due.told("", "", EIGHT), 0, 0);
    steep(new LogFlume(), 0, 0);
  }

  /** By poles it comes to 15 in minute 22, and needs 9 there in minute 23. */
  private static LogFlume lastWater(String feeders) {
    LogFlume x = Due.told("3333333333332333", feeders, "s9s");
    for (int minute = 19; minute <= 22; minute++) {
      x.event(0, minute, 0);
    }
    Due.is("in 15 behind 22", x.at(22, 0, 0), 15);
    return x;
  }

  private static void fillByTwo() {
    Says.terms("FILL: the FEEDER that had better let in 2 more");
    fill(lastWater("0000000000000006"), 0, 0);
    LogFlume x = lastWater("0000000000000007");
    fill(x, 15, 1);
    Due.is("its own stays", x.span(15, 1), 7);
    Due.is("OUT as told", x.count(3), 0);
    fill(lastWater("0000000000000008"), 14, 1);
    fill(lastWater("0000000000000009"), 0, 1);
  }

  private static void fillNineAtMost() {
    Says.terms("(9 at most), likewise: which; how many.");
    // By 10 in 14 there would be 9 in 15.
    fill(lastWater("0000000000000080"), 15, 1);
    fill(lastWater("0000000000000070"), 0, 0);
    fill(Due.told(THREES, NINES, EIGHT), 0, 8);
    fill(new LogFlume(), 0, 0);
    fill(Due.told("", "", EIGHT), 0, 0);
  }

  private static void spareNoneAtAll() {
    Says.terms("SPARE: the fewest EVENTS (0 to 2) that had better not be, so that none is LATE,");
    spare(new LogFlume(), 0, NONE, NONE);
    LogFlume x = Due.told("", NINES, "h1s");
    spare(x, 0, NONE, NONE);
    for (int i = 0; i < 8; i++) {
      x.event(0, 5, 15);
    }
    spare(x, 0, NONE, NONE);
  }

  /** OUT in the last MINUTE if nothing keeps it; some EVENTS do nothing, the bursts keep it. */
  private static LogFlume burst(int idle, int bursts) {
    LogFlume x = Due.told("", NINES, "h1s");
    for (int i = 0; i < idle; i++) {
      x.event(0, 5, 15);
    }
    for (int i = 0; i < bursts; i++) {
      x.event(2, 10, 2);
    }
    return x;
  }

  private static void spareOneOrTwo() {
    Says.terms("SPARE: the fewest EVENTS (0 to 2) that had better not be, so that none is LATE,");
    spare(burst(0, 1), 1, 0, NONE);
    spare(burst(7, 1), 1, 7, NONE);
    spare(burst(0, 2), 2, 0, 1);
    spare(burst(6, 2), 2, 6, 7);
    Due.is("EVENTS stay", burst(6, 2).count(2), 8);
  }

  private static void spareTheLeastRow() {
    Says.terms("of like ones the least row (each more than the one ahead): how many; the i-th;");
    // Behind the burst in 7 the one in 10 keeps it too, and two minutes are one too many.
    LogFlume x = Due.told("", NINES, "g1s");
    Due.events(x, new int[] {2, 7, 0}, new int[] {2, 10, 2});
    spare(x, 1, 0, NONE);
    Due.events(x, new int[] {2, 10, 2}, new int[] {2, 7, 0});
    spare(x, 2, 0, 3);
    LogFlume y = Due.told("", NINES, "g1s");
    Due.events(y, new int[] {0, 0, 15}, new int[] {2, 10, 2}, new int[] {2, 7, 0});
    spare(y, 1, 1, NONE);
    Due.events(y, new int[] {2, 7, 0}, new int[] {2, 10, 2});
    spare(y, 2, 1, 4);
  }

  private static void spareInVain() {
    Says.terms("SPARE: the fewest EVENTS (0 to 2) that had better not be, so that none is LATE, "
        + "of like ones the least row (each more than the one ahead): how many; the i-th; NONE.");
    spare(burst(0, 3), NONE, NONE, NONE);
    spare(burst(5, 3), NONE, NONE, NONE);
    spare(Due.told("", "", "a1s"), NONE, NONE, NONE);
    LogFlume x = Due.told("", NINES, "i1s");
    x.event(0, 0, 0);
    spare(x, NONE, NONE, NONE);
  }

  private static void sendAsked() {
    Says.promise(18, "SEND: which (what = 0), how many (1).");
    LogFlume x = Due.told("", NINES, EIGHT);
    send(x, 0, 0, 8);
    send(x, 7, 0, 8);
    Says.promise(18, "BAD.");
    for (int log : new int[] {LEAST, -1, 8, MOST}) Due.is("send(" + log + ", 0)", x.send(log, 0), BAD);
    for (int what : NOT_0_OR_1) Due.is("send(7, " + what + ")", x.send(7, what), BAD);
    Due.is("of none, a first", new LogFlume().send(0, 0), BAD);
    LogFlume y = Due.told("", NINES, "a1s;b1s");
    Due.is("of two, a second", y.send(1, 1), 2);
    Due.is("of two, a third", y.send(2, 1), BAD);
  }

  private static void steepAsked() {
    Says.promise(19, "STEEP: which (what = 0), how many (1).");
    LogFlume x = Due.told("", NINES, "i1s");
    steep(x, 0, 1);
    Says.promise(19, "BAD.");
    for (int what : NOT_0_OR_1) Due.is("steep(" + what + ")", x.steep(what), BAD);
  }

  private static void fillAsked() {
    Says.promise(20, "FILL: which (what = 0), how many (1).");
    LogFlume x = lastWater("0000000000000007");
    fill(x, 15, 1);
    Says.promise(20, "BAD.");
    for (int what : NOT_0_OR_1) Due.is("fill(" + what + ")", x.fill(what), BAD);
  }

  private static void spareAsked() {
    Says.promise(21, "SPARE: how many (i = NONE), the i-th (0, 1; NONE); NONE.");
    spare(burst(3, 1), 1, 3, NONE);
    Says.promise(21, "BAD.");
    LogFlume x = burst(0, 3);
    for (int i : new int[] {LEAST, -2, 2, MOST}) Due.is("spare(" + i + ")", x.spare(i), BAD);
    Due.is("spare(-1)", x.spare(-1), NONE);
    Due.is("spare(1)", x.spare(1), NONE);
  }

  /** What was found for one plan is nothing to the next one. */
  private static void askedInAnyOrder() {
    Says.promise(20, "FILL: which (what = 0), how many (1).");
    LogFlume x = poled("a9s;t1s", 1);
    for (int round = 0; round < 2; round++) {
      send(x, 0, 20, 1);
      fill(x, 0, 0);
      send(x, 0, 20, 1);
      steep(x, 0, 0);
      fill(x, 0, 0);
      send(x, 1, 0, 0);
    }
    LogFlume y = lastWater("0000000000000007");
    fill(y, 15, 1);
    steep(y, 12, 1);
    Due.is("told otherwise", y.undo(1), 15);
    fill(y, 0, 0);
    send(y, 0, 0, 0);
  }
}
