import java.math.BigInteger;

/** Bounds of promises 36 and 37. */
final class CountBounds {
  private static final int BAD = LogFlume.BAD;
  private static final String NINES = "9999999999999999";
  private static final String EIGHT = "a1s;a1s;a1s;a1s;a1s;a1s;a1s;a1s";

  private CountBounds() {}

  static void all() {
    countedNone();
    countedMost();
    latestFinding();
    countRefused();
    digestOfEach();
    digestWraps();
    digestOfParts();
  }

  private static void counts(LogFlume x, int... want) {
    for (int what = 0; what < want.length; what++) {
      Due.is("count(" + what + ")", x.count(what), want[what]);
    }
  }

  private static void countedNone() {
    Says.promise(36, "0 LOGS, 1 bytes of all texts, 2 EVENTS, 3 how many LOGS are OUT by MINUTE 23, 4 LAIN of all, 5 HELD of all, "
        + "6 WATER in all SPANS behind MINUTE 23, 7 SEEN,");
    counts(new LogFlume(), 0, 0, 0, 0, 0, 0, 0, 0, 0);
    // A text with a FAULT has bytes, and says nothing.
    counts(Due.told("0", "x", "a1s;"), 0, 6, 0, 0, 0, 0, 0, 0, 0);
  }

  private static void countedMost() {
    Says.promise(36, "0 LOGS, 1 bytes of all texts, 2 EVENTS, 3 how many LOGS are OUT by MINUTE 23, 4 LAIN of all, 5 HELD of all, "
        + "6 WATER in all SPANS behind MINUTE 23, 7 SEEN,");
    LogFlume x = Due.told("1111111111111111", NINES, EIGHT);
    counts(x, 8, 63, 0, 8, 0, 0, 306, 0, 0);
    for (int i = 0; i < 8; i++) {
      x.event(2, 23, 15);
      x.seen(0, 0, 0);
    }
    // The burst keeps the eighth in 15 for the last MINUTE.
    counts(x, 8, 63, 8, 7, 1, 0, 286, 8, 0);
    // The first lies, the second is held behind it, the third waits.
    counts(Due.told("", "9", "a9s;a1s;a1s"), 3, 12, 0, 0, 22, 22, 45, 0, 0);
    counts(Due.told("", "1", "h1s;i1s"), 2, 8, 0, 0, 15, 15, 1, 0, 0);
  }

  private static void latestFinding() {
    Says.promise(36, "8 the number of the latest FINDING (0 before any).");
    LogFlume x = new LogFlume();
    Due.is("before any", x.count(8), 0);
    x.undo(0);
    x.back();
    x.lose(4);
    Due.is("BAD and NOT are none", x.count(8), 0);
    x.sheet(0, 0, -1);
    Due.is("SIZE", x.count(8), 5);
    x.lose(0);
    Due.is("NULL is later", x.count(8), 1);
    x.sheet(0, 0, 1);
    x.get(0, 0, 0);
    x.wipe(2);
    Due.is("what goes well leaves it", x.count(8), 1);
    x.get(0, 0, 1);
    Due.is("INDEX by get", x.count(8), 2);
    Due.is("asked again", x.count(8), 2);
  }

  private static void countRefused() {
    Says.promise(36, "BAD.");
    for (int what : new int[] {Integer.MIN_VALUE, -1, 9, Integer.MAX_VALUE}) {
      Due.is("count(" + what + ")", new LogFlume().count(what), BAD);
    }
  }

  /** What the digest is of, in its order, by calls. */
  private static java.util.List<Long> parts(LogFlume x) {
    java.util.List<Long> p = new java.util.ArrayList<>();
    for (int what = 0; what <= 7; what++) p.add((long) x.count(what));
    for (int text = 0; text <= 2; text++) p.add((long) x.fault(text));
    for (int m = 0; m <= 23; m++) {
      for (int what = 0; what <= 1; what++) p.add((long) x.all(m, what));
    }
    for (int s = 0; s <= 15; s++) {
      for (int what = 0; what <= 1; what++) p.add((long) x.span(s, what));
      for (int m : new int[] {7, 18}) {
        for (int what = 0; what <= 1; what++) p.add((long) x.flume(m, s, what));
      }
      p.add((long) x.grade(s));
    }
    for (int log = 0; log < x.count(0); log++) addLog(p, x, log);
    p.add((long) x.jam());
    for (int what = 0; what <= 1; what++) p.add((long) x.left(what));
    p.add((long) x.worst());
    for (int what = 0; what <= 1; what++) p.add((long) x.steep(what));
    for (int what = 0; what <= 1; what++) p.add((long) x.fill(what));
    p.add((long) x.spare(LogFlume.NONE));
    p.add((long) x.spare(0));
    p.add((long) x.never());
    for (int what = 0; what <= 1; what++) p.add((long) x.seasons(7, 11, what));
    return p;
  }

  private static void addLog(java.util.List<Long> p, LogFlume x, int log) {
    for (int what = 0; what <= 2; what++) p.add((long) x.log(log, what));
    for (int m : new int[] {0, 6, 13, 23}) {
      for (int what = 0; what <= 1; what++) p.add((long) x.at(m, log, what));
    }
    for (int what = 0; what <= 2; what++) p.add((long) x.out(log, what));
    for (int what = 0; what <= 1; what++) p.add((long) x.send(log, what));
    p.add((long) x.draughts(log));
    p.add((long) x.ask(log));
    for (int what = 0; what <= 1; what++) p.add(x.chance(5, log, what));
  }

  /** By numbers that do not wrap by themselves. */
  private static long byParts(LogFlume x) {
    BigInteger h = BigInteger.valueOf(17);
    for (long part : parts(x)) {
      h = h.multiply(BigInteger.valueOf(31)).add(BigInteger.valueOf(part));
    }
    return h.longValue();
  }

  private static void digestOfEach() {
    Says.promise(37, "h is 17; h becomes 31 h and each of: count() 0 to 7; of texts fault(); of MINUTES 0 to 23 all() 0, 1; "
        + "of SPANS span() 0, 1, flume(7, it, 0 and 1), flume(18, it, 0 and 1), grade(); of LOGS log() 0 to 2, "
        + "of MINUTES 0, 6, 13, 23 at(the MINUTE, it, 0 and 1), then out() 0 to 2, send() 0, 1, draughts(), ask(), "
        + "chance(5, it), above, below; jam(), left() 0, 1, worst(), steep() 0, 1, fill() 0, 1, spare(NONE), spare(0), never(), "
        + "seasons(7, 11, 0 and 1);");
    LogFlume x = Due.told("", "9", "a9s;a1s");
    long before = x.digest();
    Due.is("asked again", x.digest(), before);
    x.sheet(0, 0, 60);
    x.sheet(0, 0, -1);
    Due.is("SHEETS and count() 8 are not of it", x.digest(), before);
    x.seen(0, 0, 0);
    Due.is("SEEN is", x.digest() == before ? 1 : 0, 0);
    x.forget();
    Due.is("forgotten", x.digest(), before);
    x.event(0, 0, 15);
    Due.is("EVENTS are", x.digest() == before ? 1 : 0, 0);
    x.back();
    Due.is("undone", x.digest(), before);
  }

  private static void digestWraps() {
    Says.promise(37, "as longs that wrap.");
    LogFlume none = new LogFlume();
    Due.is("of a new object", none.digest(), byParts(none));
    LogFlume one = Due.told("2", "9", "a1s");
    Due.is("of one LOG", one.digest(), byParts(one));
    LogFlume most = Due.told("1231231231231231", NINES, EIGHT);
    for (int i = 0; i < 8; i++) {
      most.event(i % 3, 2 * i, i);
      most.seen(i, i, 8);
    }
    Due.is("of the most that can be told", most.digest(), byParts(most));
    LogFlume faulty = Due.told("0", "x", "a1s;");
    Due.is("of FAULTS", faulty.digest(), byParts(faulty));
  }

  /** In each of these some part is other than it is where the digest could be of a wrong thing. */
  private static void digestOfParts() {
    Says.promise(37, "h is 17; h becomes 31 h and each of:");
    LogFlume lastMinute = Due.told("", NINES, "h1s;a1l");
    lastMinute.event(2, 18, 3);
    lastMinute.event(2, 7, 2);
    Due.is("of MINUTES 7, 18 and 23", lastMinute.digest(), byParts(lastMinute));
    LogFlume steeper = Due.told("3333333333333233", NINES, "s1s");
    steeper.event(0, 19, 0);
    Due.is("of steep(0) 13, chance(5) 0", steeper.digest(), byParts(steeper));
    LogFlume fuller = Due.told("3333333333332333", "0000000000000007", "s9s");
    for (int minute = 19; minute <= 22; minute++) {
      fuller.event(0, minute, 0);
    }
    Due.is("of fill(0) 15", fuller.digest(), byParts(fuller));
    LogFlume kept = Due.told("", NINES, "h1s");
    kept.event(0, 5, 15);
    kept.event(2, 10, 2);
    Due.is("of spare(0) 1, never() 3, chance(5) 11 by 16", kept.digest(), byParts(kept));
    LogFlume later = Due.told("", "1111111111111111", "b2s;b1s");
    Due.is("of send(0, 0) 2", later.digest(), byParts(later));
    for (int span = 10; span <= 11; span++) {
      LogFlume season = ChanceBounds.poledOverBurst(span);
      Due.is("of seasons(7, 11), not 10 nor 12", season.digest(), byParts(season));
    }
    // The first LOT of 7 is 2, so that it lies in 0; by those of 6 and of 8 it is OUT.
    LogFlume seed = Due.told("", "", "a3s");
    Due.is("OUT by seed 6 and 8, not by 7", 100 * seed.seasons(6, 11, 0) + 10 * seed.seasons(7, 11, 0) + seed.seasons(8, 11, 0), 101);
    Due.is("of seasons(7, 11), not of 6 nor 8", seed.digest(), byParts(seed));
  }
}
