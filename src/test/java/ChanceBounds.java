import java.math.BigInteger;

/** Bounds of FRACTIONS, LOTS, CHANCE and SEASONS, and promises 28 and 29. */
final class ChanceBounds {
  private static final int BAD = LogFlume.BAD;
  private static final int LEAST = Integer.MIN_VALUE, MOST = Integer.MAX_VALUE;
  private static final String NINES = "9999999999999999";
  private static final int[] NOT_0_OR_1 = {LEAST, -1, 2, MOST};

  private ChanceBounds() {}

  static void all() {
    lowestTerms();
    sixteenths();
    eightEvents();
    eachByItself();
    lots();
    lotsAsFeeders();
    togetherAground();
    chanceAsked();
    seasonsAsked();
  }

  private static void fraction(LogFlume x, int c, int log, long above, long below) {
    Due.is("chance(" + c + ", " + log + ", 0)", x.chance(c, log, 0), above);
    Due.is("chance(" + c + ", " + log + ", 1)", x.chance(c, log, 1), below);
  }

  /** OUT in the last MINUTE, if none of the bursts is. */
  private static LogFlume burst(int times) {
    LogFlume x = Due.told("", NINES, "h1s");
    for (int i = 0; i < times; i++) {
      x.event(2, 10, 2);
    }
    return x;
  }

  /** A MINUTE too late, if none of the poles is. */
  private static LogFlume poled(int times) {
    LogFlume x = Due.told("", NINES, "i1s");
    for (int i = 0; i < times; i++) {
      x.event(0, 9, 0);
    }
    return x;
  }

  private static void lowestTerms() {
    Says.terms("FRACTIONS are told in lowest terms, above and below (0 by 1).");
    int[][] terms = {{1, 1}, {15, 16}, {7, 8}, {13, 16}, {3, 4}, {11, 16}, {5, 8}, {9, 16}, {1, 2}, {7, 16}, {3, 8}, {5, 16},
      {1, 4}, {3, 16}, {1, 8}, {1, 16}, {0, 1}};
    for (int c = 0; c <= 16; c++) {
      fraction(burst(1), c, 0, terms[c][0], terms[c][1]);
      fraction(poled(1), c, 0, terms[16 - c][0], terms[16 - c][1]);
    }
    fraction(poled(0), 5, 0, 0, 1);
    fraction(burst(0), 5, 0, 1, 1);
    LogFlume x = Due.told("", "", "a1s");
    for (int i = 0; i < 8; i++) {
      x.event(2, i, i);
    }
    fraction(x, 5, 0, 0, 1);
  }

  private static void sixteenths() {
    Says.terms("CHANCE: each of EVENTS is by c sixteenths (0 to 16),");
    LogFlume x = burst(1);
    Due.is("c = -1", x.chance(-1, 0, 0), Due.BAD_LONG);
    Due.is("c = 17", x.chance(17, 0, 0), Due.BAD_LONG);
    fraction(x, 0, 0, 1, 1);
    fraction(x, 16, 0, 0, 1);
    fraction(x, 1, 0, 15, 16);
    fraction(x, 15, 0, 1, 16);
    Due.is("EVENTS stay", x.count(2), 1);
  }

  private static void eightEvents() {
    Says.terms("by itself: the chance that a LOG is OUT by MINUTE 23: a FRACTION.");
    long whole = 4294967296L;
    fraction(burst(8), 1, 0, 2562890625L, whole);
    fraction(poled(8), 1, 0, whole - 2562890625L, whole);
    fraction(burst(8), 15, 0, 1, whole);
    fraction(poled(8), 15, 0, whole - 1, whole);
    fraction(burst(8), 8, 0, 1, 256);
    fraction(poled(8), 8, 0, 255, 256);
    fraction(burst(8), 0, 0, 1, 1);
    fraction(poled(8), 0, 0, 0, 1);
    fraction(burst(8), 16, 0, 0, 1);
    fraction(poled(8), 16, 0, 1, 1);
  }

  private static void eachByItself() {
    Says.terms("by itself: the chance that a LOG is OUT by MINUTE 23: a FRACTION.");
    fraction(burst(2), 4, 0, 9, 16);
    fraction(poled(2), 4, 0, 7, 16);
    // By both the pole makes up for the burst.
    LogFlume x = burst(1);
    x.event(0, 12, 0);
    fraction(x, 4, 0, 13, 16);
    fraction(x, 16, 0, 1, 1);
    LogFlume y = Due.told("", NINES, "h1s;i1s;x1s");
    fraction(y, 3, 0, 1, 1);
    fraction(y, 3, 1, 0, 1);
    fraction(y, 3, 2, 0, 1);
    eachOfEight();
  }

  /** Behind the burst all are a MINUTE later, which is too late for the eighth alone. */
  private static void eachOfEight() {
    LogFlume x = Due.told("", NINES, "a1s;a1s;a1s;a1s;a1s;a1s;a1s;a1s");
    x.event(2, 1, 0);
    for (int log = 0; log < 7; log++) {
      fraction(x, 6, log, 1, 1);
    }
    fraction(x, 6, 7, 5, 8);
    // This one keeps the second, or by the other burst the first, and all behind it:
    // the eighth is too late by either, the seventh by both.
    x.event(2, 8, 6);
    fraction(x, 6, 6, 55, 64);
    fraction(x, 6, 7, 25, 64);
    LogFlume y = Due.told("", NINES, "x1s;a1s;b1s;h1s");
    y.event(2, 23, 15);
    fraction(y, 4, 0, 0, 1);
    fraction(y, 4, 1, 1, 1);
    fraction(y, 4, 2, 1, 1);
    fraction(y, 4, 3, 3, 4);
  }

  /** LOTS of 10 by numbers that do not wrap by themselves. */
  private static String lotsOf(int seed, int n) {
    BigInteger whole = BigInteger.ONE.shiftLeft(32);
    BigInteger s = BigInteger.valueOf(seed).mod(whole);
    StringBuilder lots = new StringBuilder();
    for (int i = 0; i < n; i++) {
      s = s.multiply(BigInteger.valueOf(1103515245)).add(BigInteger.valueOf(12345)).mod(whole);
      lots.append(s.shiftRight(16).mod(BigInteger.TEN));
    }
    return lots.toString();
  }

  private static void season(int seed, int n) {
    String logs = "a1s;a3l;c6s;g2s";
    LogFlume x = Due.told("212", "123", logs);
    LogFlume y = Due.told("212", lotsOf(seed, n), logs);
    Due.is("seasons(" + seed + ", " + n + ", 0)", x.seasons(seed, n, 0), y.count(3));
    Due.is("seasons(" + seed + ", " + n + ", 1)", x.seasons(seed, n, 1), y.count(4));
    Due.is("FEEDERS stay", x.span(2, 1), 3);
  }

  private static void lots() {
    Says.terms("LOTS of m: SEED becomes 1103515245 SEED and 12345, as ints that wrap; its upper 16 bits as a number from 0 on, modulo m.");
    for (int seed : new int[] {LEAST, LEAST + 1, -65536, -2, -1, 0, 1, 2, 7, 65535, 65536, MOST - 1, MOST}) {
      for (int n = 0; n <= 16; n++) {
        season(seed, n);
      }
    }
    for (int i = 0; i < 400; i++) {
      season(i * 1000003, 1 + i % 16);
    }
  }

  /**
   * The SPAN ahead of this one bursts in the MINUTE in which the log is poled over it, so that here there
   * is no WATER then but what this SPAN's own FEEDER lets in. If it goes on by that, another pole
   * brings it away from the gap in the WATER, which goes down with it, and it is OUT in MINUTE 23;
   * if not, the gap is under it behind the pole once more.
   */
  static LogFlume poledOverBurst(int span) {
    LogFlume x = Due.told("", "", "j1s");
    Due.events(x, new int[] {2, 8 + span, span - 1}, new int[] {0, 8 + span, 0}, new int[] {0, 10 + span, 0});
    return x;
  }

  private static void lotsAsFeeders() {
    Says.terms("SEASONS by a SEED: n LOTS of 10 (0 to 16) are FEEDERS, in place of what is told (0 at later SPANS):");
    LogFlume x = Due.told("", NINES, "a1s");
    Due.is("n = -1", x.seasons(1, -1, 0), BAD);
    Due.is("n = 17", x.seasons(1, 17, 0), BAD);
    Due.is("OUT by what is told", x.count(3), 1);
    Due.is("of no LOTS none is OUT", x.seasons(1, 0, 0), 0);
    Due.is("of no LOTS it lies", x.seasons(1, 0, 1), 23);
    // The first LOT of 7 is 2, of 0 is 0: it goes on as far as that WATER goes, or not at all.
    Due.is("it comes to 2 and lies there", x.seasons(7, 1, 1), 21);
    Due.is("it lies in 0", x.seasons(0, 1, 1), 23);
    x.event(0, 3, 0);
    Due.is("EVENTS are as told", x.seasons(7, 1, 1), 20);
    for (int n = 10; n <= 12; n++) {
      for (int span = 10; span <= 11; span++) {
        LogFlume y = poledOverBurst(span);
        boolean hasLot = span < n;
        Due.is("n = " + n + ", OUT by the LOT of " + span, y.seasons(7, n, 0), hasLot ? 1 : 0);
        Due.is("n = " + n + ", AGROUND without it", y.seasons(7, n, 1), hasLot ? 0 : 2);
      }
    }
  }

  private static void togetherAground() {
    Says.terms("how many LOGS are OUT; in how many MINUTES LOGS are AGROUND, together.");
    Due.is("no LOGS, none OUT", new LogFlume().seasons(7, 16, 0), 0);
    Due.is("no LOGS, none AGROUND", new LogFlume().seasons(7, 16, 1), 0);
    // The first comes to 2 and lies there from 3 on, the second lies in 0 from 2 on.
    LogFlume x = Due.told("", "", "a1s;b9s");
    Due.is("both lie", x.seasons(7, 1, 1), 21 + 22);
    Due.is("none is OUT", x.seasons(7, 1, 0), 0);
  }

  private static void chanceAsked() {
    Says.promise(28, "CHANCE: above, below.");
    fraction(burst(1), 4, 0, 3, 4);
    Says.promise(28, "BAD. (As the least long.)");
    LogFlume x = Due.told("", NINES, "a1s;a1s;a1s;a1s;a1s;a1s;a1s;a1s");
    Due.is("the eighth", x.chance(16, 7, 1), 1);
    for (int c : new int[] {LEAST, -1, 17, MOST}) Due.is("chance(" + c + ", 0, 0)", x.chance(c, 0, 0), Long.MIN_VALUE + 2);
    for (int log : new int[] {LEAST, -1, 8, MOST}) Due.is("chance(0, " + log + ", 0)", x.chance(0, log, 0), Long.MIN_VALUE + 2);
    for (int what : NOT_0_OR_1) Due.is("chance(16, 7, " + what + ")", x.chance(16, 7, what), Long.MIN_VALUE + 2);
    Due.is("of none, a first", new LogFlume().chance(0, 0, 0), Long.MIN_VALUE + 2);
  }

  private static void seasonsAsked() {
    Says.promise(29, "SEASONS: how many are OUT (what = 0), in how many MINUTES AGROUND (1).");
    LogFlume x = Due.told("", "", "a1s");
    Due.is("seasons(7, 0, 0)", x.seasons(7, 0, 0), 0);
    Due.is("seasons(7, 0, 1)", x.seasons(7, 0, 1), 23);
    Says.promise(29, "BAD.");
    for (int n : new int[] {LEAST, -1, 17, MOST}) Due.is("seasons(7, " + n + ", 0)", x.seasons(7, n, 0), BAD);
    for (int what : NOT_0_OR_1) Due.is("seasons(7, 16, " + what + ")", x.seasons(7, 16, what), BAD);
    for (int seed : new int[] {LEAST, -1, 0, MOST}) Due.is("no seed is BAD", x.seasons(seed, 0, 1), 23);
  }
}
