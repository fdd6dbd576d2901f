/** Promises 11 to 17: flume, at, all, out, jam, left, worst, and what goes on in a MINUTE. */
public final class MinutesTest {
  private static final int N = LogFlume.NONE;
  private static final String NINES = "9999999999999999";
  private static final String THREES = "3333333333333333";

  public static void main(String[] args) {
    waterGoesOn();
    gatesAndBursts();
    aLogGoesAground();
    aLogIsBlocked();
    longOnes();
    slopes();
    poles();
    waiting();
    whoIsOut();
    whichIsWorst();
    askedFirst();
    refusals();
    Due.end();
  }

  private static void water(LogFlume x, int minute, int... levels) {
    int sum = 0;
    for (int s = 0; s < 16; s++) {
      int want = s < levels.length ? levels[s] : 0;
      sum += want;
      Due.is("flume(" + minute + ", " + s + ", 0)", x.flume(minute, s, 0), want);
    }
    Due.is("all(" + minute + ", 0)", x.all(minute, 0), sum);
  }

  private static void place(LogFlume x, int minute, int log, int head, int state) {
    Due.is("at(" + minute + ", " + log + ", 0)", x.at(minute, log, 0), head);
    Due.is("at(" + minute + ", " + log + ", 1)", x.at(minute, log, 1), state);
  }

  private static void waterGoesOn() {
    LogFlume x = Due.told("", "5", "");
    water(x, 0, 5);
    water(x, 1, 5, 4);
    water(x, 2, 5, 4, 3);
    water(x, 5, 5, 4, 3, 2, 1);
    water(x, 23, 5, 4, 3, 2, 1);
    Due.is("DRY", x.left(0), 0xffe0);
    LogFlume y = Due.told("3", "999", "");
    water(y, 0, 9, 9, 9);
    water(y, 1, 9, 17, 17, 8);
    water(y, 2, 9, 17, 20, 16, 7);
    LogFlume z = Due.told("", "0000000000000007", "");
    water(z, 23, 0, 0, 0, 0, 0, 0, 0, 0, 0, 0, 0, 0, 0, 0, 0, 7);
    Due.is("DRY but the last", z.left(0), 0x7fff);
    Due.is("DRY of no feeders", new LogFlume().left(0), 0xffff);
  }

  private static void gatesAndBursts() {
    LogFlume x = Due.told("", "51", "");
    x.event(1, 0, 0);
    x.event(2, 2, 1);
    x.event(1, 3, 7);
    x.event(0, 4, 0);
    water(x, 0, 0, 1);
    water(x, 1, 5, 1, 0);
    water(x, 2, 5, 0, 0);
    water(x, 3, 5, 5, 0);
    water(x, 4, 5, 5, 4);
    x.event(2, 3, 1);
    x.event(1, 3, 1);
    water(x, 3, 5, 0, 0);
    LogFlume y = Due.told("", "1", "");
    for (int m = 0; m < 8; m++) {
      y.event(2, m, 0);
    }
    Due.is("a burst one is not DRY later", y.left(0), 0xfffe);
  }

  private static void aLogGoesAground() {
    LogFlume x = Due.told("", "5", "a3s");
    int[] heads = {0, 1, 2, 3, 3, 3};
    for (int m = 0; m < heads.length; m++) {
      place(x, m, 0, heads[m], m >= 4 ? 1 : 0);
    }
    Due.is("who lies in 3", x.flume(4, 3, 1), 0);
    Due.is("who lies in 2", x.flume(4, 2, 1), N);
    Due.is("OUT", x.out(0, 0), N);
    Due.is("LAIN", x.out(0, 1), 20);
    Due.is("HELD", x.out(0, 2), 0);
    Due.is("JAM", x.jam(), N);
    Due.is("LATE", x.left(1), 1);
    Due.is("WORST", x.worst(), 0);
    Due.is("in the flume", x.all(23, 1), 1);
  }

  private static void aLogIsBlocked() {
    LogFlume x = Due.told("", "9", "a9s;a1s");
    place(x, 0, 1, N, 0);
    place(x, 1, 0, 1, 0);
    place(x, 1, 1, 0, 0);
    place(x, 2, 0, 1, 1);
    place(x, 2, 1, 0, 2);
    place(x, 23, 1, 0, 2);
    Due.is("JAM", x.jam(), 2);
    Due.is("HELD", x.out(1, 2), 22);
    Due.is("LAIN of the held one", x.out(1, 1), 0);
    Due.is("LAIN", x.out(0, 1), 22);
    Due.is("LATE", x.left(1), 3);
    Due.is("in the flume at 0", x.all(0, 1), 1);
    Due.is("in the flume at 1", x.all(1, 1), 2);
    LogFlume y = Due.told("", "8", "a9s;a9s");
    y.event(0, 1, 0);
    y.event(0, 2, 1);
    place(y, 1, 0, 2, 0);
    place(y, 1, 1, 0, 0);
    place(y, 2, 1, 1, 2);
    place(y, 3, 1, 1, 1);
    Due.is("went on ahead of BLOCKED", y.jam(), 2);
  }

  private static void longOnes() {
    LogFlume x = Due.told("", NINES, "a1l;a1s");
    Due.is("its head in 0", x.flume(0, 0, 1), 0);
    place(x, 1, 0, 1, 0);
    place(x, 1, 1, N, 0);
    Due.is("its tail in 0", x.flume(1, 0, 1), 0);
    Due.is("its head in 1", x.flume(1, 1, 1), 0);
    place(x, 2, 0, 2, 0);
    place(x, 2, 1, 0, 0);
    Due.is("the next one in 0", x.flume(2, 0, 1), 1);
    Due.is("its tail in 1", x.flume(2, 1, 1), 0);
    Due.is("at 15, its tail in 14", x.flume(15, 14, 1), 0);
    Due.is("OUT, nowhere", x.flume(16, 15, 1), N);
    place(x, 16, 0, 16, 0);
    place(x, 17, 1, 15, 0);
    place(x, 18, 1, 16, 0);
    Due.is("none left", x.all(18, 1), 0);
    LogFlume y = Due.told("", "8", "a9l;a1s");
    y.event(0, 1, 0);
    place(y, 1, 0, 2, 0);
    place(y, 2, 1, 0, 2);
    Due.is("blocked by a tail", y.jam(), 2);
  }

  private static void slopes() {
    LogFlume x = Due.told("31", NINES, "a1s");
    place(x, 1, 0, 3, 0);
    place(x, 2, 0, 4, 0);
    LogFlume y = Due.told("3", "9", "a9s");
    place(y, 1, 0, 1, 1);
    Due.is("went on and is aground", y.out(0, 1), 23);
    LogFlume z = Due.told("13", NINES, "a1s");
    place(z, 1, 0, 1, 0);
    place(z, 2, 0, 4, 0);
  }

  private static void poles() {
    LogFlume x = Due.told("", "", "a1s");
    x.event(0, 0, 0);
    place(x, 0, 0, 0, 0);
    place(x, 1, 0, 0, 1);
    x.event(0, 1, 0);
    place(x, 1, 0, 2, 0);
    x.event(0, 1, 0);
    place(x, 1, 0, 2, 0);
    x.event(0, 2, 1);
    place(x, 2, 0, 2, 1);
    x.event(0, 2, 8);
    place(x, 2, 0, 2, 1);
    LogFlume y = Due.told(THREES, NINES, "a1s");
    y.event(0, 1, 0);
    place(y, 1, 0, 4, 0);
    y.event(0, 4, 0);
    place(y, 4, 0, 14, 0);
    y.event(0, 5, 0);
    place(y, 5, 0, 16, 0);
    Due.is("OUT", y.out(0, 0), 5);
  }

  private static void waiting() {
    LogFlume x = Due.told("", NINES, "c1s;a1s;b1s;a1s");
    place(x, 0, 1, 0, 0);
    place(x, 1, 1, 1, 0);
    place(x, 1, 2, 0, 0);
    place(x, 1, 3, N, 0);
    place(x, 2, 0, 0, 0);
    place(x, 2, 3, N, 0);
    place(x, 3, 3, 0, 0);
    LogFlume y = Due.told("", NINES, "x1s");
    place(y, 22, 0, N, 0);
    place(y, 23, 0, 0, 0);
    Due.is("LATE", y.left(1), 1);
    LogFlume z = Due.told("", "", "a1s;a1s");
    place(z, 23, 1, N, 0);
    Due.is("who WAITS is not BLOCKED", z.jam(), N);
    Due.is("who WAITS is not AGROUND", z.out(1, 1), 0);
  }

  private static void whoIsOut() {
    LogFlume x = Due.told(THREES, NINES, "a1s;h1s");
    int[] heads = {0, 3, 6, 9, 12, 15, 16, 16};
    for (int m = 0; m < heads.length; m++) {
      place(x, m, 0, heads[m], 0);
    }
    Due.is("OUT of 0", x.out(0, 0), 6);
    Due.is("OUT of 1", x.out(1, 0), 13);
    Due.is("LATE", x.left(1), 0);
    Due.is("in the flume", x.all(6, 1), 0);
    LogFlume y = Due.told("", NINES, "h1s;i1s");
    Due.is("in the last minute", y.out(0, 0), 23);
    Due.is("a minute too late", y.out(1, 0), N);
    Due.is("LATE", y.left(1), 2);
  }

  private static void whichIsWorst() {
    Due.is("none", new LogFlume().worst(), N);
    LogFlume x = Due.told("", "5", "a3s;b3s");
    Due.is("the first lies longer", x.worst(), 0);
    LogFlume y = Due.told("", "5", "b3s;a4s");
    Due.is("the second lies longer", y.worst(), 1);
    LogFlume z = Due.told("", NINES, "a1s");
    Due.is("none lies", z.worst(), N);
    LogFlume v = Due.told("", NINES, "a1s");
    v.event(2, 4, 3);
    Due.is("a single minute is enough", v.worst(), 0);
    v.back();
    Due.is("first asked behind a change: worst()", v.worst(), N);
    LogFlume w = Due.told("", "9", "a9s;b8s");
    w.event(0, 1, 1);
    w.event(0, 2, 0);
    w.event(0, 3, 0);
    w.event(0, 3, 1);
    Due.is("LAIN of 0", w.out(0, 1), 20);
    Due.is("LAIN of 1", w.out(1, 1), 20);
    Due.is("of like ones the least", w.worst(), 0);
  }

  /** Each call is asked first behind a change. */
  private static void askedFirst() {
    LogFlume x = Due.told("", "9", "a9s;a1s");
    Due.is("jam()", x.jam(), 2);
    x.event(2, 2, 0);
    Due.is("jam() behind a burst", x.jam(), 3);
    x.back();
    Due.is("all(2, 0)", x.all(2, 0), 24);
    x.event(2, 2, 0);
    Due.is("all(2, 0) behind a burst", x.all(2, 0), 15);
    x.back();
    Due.is("left(1)", x.left(1), 3);
    x.wipe(2);
    Due.is("left(1) behind wipe", x.left(1), 0);
    x.type(1, '9');
    Due.is("flume(0, 1, 0)", x.flume(0, 1, 0), 9);
    Due.type(x, 2, "a1s");
    Due.is("out(0, 0)", x.out(0, 0), 16);
    Due.is("at(1, 0, 0)", x.at(1, 0, 0), 1);
    x.event(2, 1, 0);
    Due.is("at(1, 0, 0) behind a burst", x.at(1, 0, 0), 0);
  }

  private static void refusals() {
    LogFlume x = Due.told("", "9", "a1s");
    int[][] threes = {{-1, 0, 0}, {24, 0, 0}, {0, -1, 0}, {0, 16, 0}, {0, 0, -1}, {0, 0, 2}};
    for (int[] t : threes) {
      String call = t[0] + " " + t[1] + " " + t[2];
      Due.is("flume " + call, x.flume(t[0], t[1], t[2]), LogFlume.BAD);
      Due.is("at " + call, x.at(t[0], t[1], t[2]), LogFlume.BAD);
    }
    Due.is("at of no log", x.at(0, 1, 0), LogFlume.BAD);
    int[][] twos = {{-1, 0}, {24, 0}, {0, -1}, {0, 3}};
    for (int[] t : twos) {
      Due.is("all " + t[0] + " " + t[1], x.all(t[0], t[1]), LogFlume.BAD);
      Due.is("out " + t[0] + " " + t[1], x.out(t[0], t[1]), LogFlume.BAD);
    }
    Due.is("all(0, 2)", x.all(0, 2), LogFlume.BAD);
    Due.is("out of no log", x.out(1, 0), LogFlume.BAD);
    Due.is("left(-1)", x.left(-1), LogFlume.BAD);
    Due.is("left(2)", x.left(2), LogFlume.BAD);
  }
}
