/** Promises 18 to 21: send, steep, fill, spare. */
public final class PlansTest {
  private static final int N = LogFlume.NONE;
  private static final String NINES = "9999999999999999";

  public static void main(String[] args) {
    sending();
    steeper();
    fuller();
    sparing();
    refusals();
    Due.end();
  }

  private static void both(String what, int which, int many, int wantWhich, int wantMany) {
    Due.is(what + " which", which, wantWhich);
    Due.is(what + " how many", many, wantMany);
  }

  private static void sending() {
    LogFlume x = Due.told("", NINES, "i1s;a1s");
    Due.is("OUT as told", x.count(3), 1);
    // At 0 the log goes in ahead of the other one, which is a minute later then.
    both("send(0)", x.send(0, 0), x.send(0, 1), 0, 2);
    both("send(1)", x.send(1, 0), x.send(1, 1), 0, 1);
    Due.is("nothing is changed", x.log(0, 0), 8);
    Due.is("nor what comes of it", x.count(3), 1);
    // Shut gates: only who is put in behind them finds water all the way.
    LogFlume y = Due.told("3333333333333333", "9", "a9s");
    both("send of one that is late anyhow", y.send(0, 0), y.send(0, 1), 0, 0);
    // A deep log stands in the way of the shallow one unless it comes later.
    LogFlume z = Due.told("3333333333333333", NINES, "a1s;a1s");
    z.event(2, 1, 0);
    z.event(2, 2, 0);
    both("send", z.send(0, 0), z.send(0, 1), 0, 2);
    LogFlume w = Due.told("", "1111111111111111", "b2s;b1s");
    Due.is("OUT as told", w.count(3), 0);
    both("send behind the other one", w.send(0, 0), w.send(0, 1), 2, 1);
  }

  private static void steeper() {
    LogFlume x = Due.told("", NINES, "i1s");
    both("steep", x.steep(0), x.steep(1), 0, 1);
    Due.is("nothing is changed", x.span(0, 0), 1);
    Due.is("nor what comes of it", x.count(3), 0);
    LogFlume y = Due.told("3", NINES, "k1s");
    Due.is("OUT as told", y.count(3), 0);
    both("3 at most", y.steep(0), y.steep(1), 3, 1);
    LogFlume z = Due.told("", "", "");
    both("no logs", z.steep(0), z.steep(1), 0, 0);
    LogFlume w = Due.told("", NINES, "j1s");
    both("by 1, not by 2", w.steep(0), w.steep(1), 0, 0);
  }

  private static void fuller() {
    LogFlume x = Due.told("", "9000000000111111", "a1s");
    Due.is("aground in 9", x.at(23, 0, 0), 9);
    both("fill, 9 at most", x.fill(0), x.fill(1), 1, 1);
    Due.is("nothing is changed", x.span(1, 1), 0);
    Due.is("nor what comes of it", x.count(3), 0);
    LogFlume y = Due.told("", "9000000000011111", "a2s");
    both("fill in vain", y.fill(0), y.fill(1), 0, 0);
    LogFlume z = Due.told("", "8000000000111111", "a1s");
    both("8 and 2 are 9", z.fill(0), z.fill(1), 1, 1);
  }

  private static void spared(String what, LogFlume x, int many, int first, int second) {
    Due.is(what + " spare(NONE)", x.spare(N), many);
    Due.is(what + " spare(0)", x.spare(0), first);
    Due.is(what + " spare(1)", x.spare(1), second);
  }

  private static void sparing() {
    LogFlume x = Due.told("", NINES, "h1s");
    spared("no events", x, 0, N, N);
    x.event(0, 0, 5);
    spared("a harmless one", x, 0, N, N);
    x.event(2, 10, 2);
    spared("a burst", x, 1, 1, N);
    x.event(2, 10, 2);
    spared("the burst twice", x, 2, 1, 2);
    x.event(2, 10, 2);
    spared("three times", x, N, N, N);
    Due.is("nothing is changed", x.count(2), 4);
    LogFlume y = Due.told("", NINES, "h1s");
    y.event(2, 10, 2);
    y.event(0, 3, 3);
    y.event(2, 12, 4);
    spared("two bursts that are not of one log's way at once", y, 2, 0, 2);
    LogFlume z = Due.told("", NINES, "i1s");
    z.event(0, 3, 3);
    spared("late anyhow", z, N, N, N);
    LogFlume w = Due.told("", NINES, "h1s");
    w.event(2, 10, 2);
    w.event(0, 11, 5);
    spared("the first of two", w, 1, 0, N);
    // Without the pole it still lies in 3 for two of the bursts; without the first one it is past.
    LogFlume v = Due.told("", NINES, "g1s");
    v.event(0, 8, 0);
    v.event(2, 9, 3);
    v.event(2, 10, 3);
    v.event(2, 11, 3);
    spared("the first that helps, not the first", v, 1, 1, N);
  }

  private static void refusals() {
    LogFlume x = Due.told("", NINES, "a1s");
    int[][] bad = {{-1, 0}, {1, 0}, {0, -1}, {0, 2}};
    for (int[] b : bad) {
      Due.is("send(" + b[0] + ", " + b[1] + ")", x.send(b[0], b[1]), LogFlume.BAD);
    }
    for (int what : new int[] {-1, 2}) {
      Due.is("steep(" + what + ")", x.steep(what), LogFlume.BAD);
      Due.is("fill(" + what + ")", x.fill(what), LogFlume.BAD);
    }
    Due.is("spare(-2)", x.spare(-2), LogFlume.BAD);
    Due.is("spare(2)", x.spare(2), LogFlume.BAD);
  }
}
