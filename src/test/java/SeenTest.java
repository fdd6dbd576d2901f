/** Promises 22 to 27: seen, forget, never, draughts, grade, ask. */
public final class SeenTest {
  private static final String NINES = "9999999999999999";

  public static void main(String[] args) {
    seeing();
    neverWas();
    howDeep();
    howSteep();
    asking();
    Due.end();
  }

  private static void seeing() {
    LogFlume x = new LogFlume();
    int[][] bad = {{-1, 0, 0}, {24, 0, 0}, {0, -1, 0}, {0, 16, 0}, {0, 0, -1}, {0, 0, 9}};
    for (int[] b : bad) {
      Due.is("seen " + b[0] + " " + b[1] + " " + b[2], x.seen(b[0], b[1], b[2]), LogFlume.BAD);
    }
    for (int i = 0; i < 8; i++) {
      Due.is("seen", x.seen(23, 15, 8 - i), i + 1);
    }
    Due.is("ninth", x.seen(0, 0, 0), LogFlume.FULL);
    Due.is("BAD ahead of FULL", x.seen(0, 0, 9), LogFlume.BAD);
    Due.is("count(7)", x.count(7), 8);
    Due.is("forget()", x.forget(), 8);
    Due.is("forget()", x.forget(), 0);
    Due.is("count(7)", x.count(7), 0);
  }

  private static void neverWas() {
    LogFlume x = Due.told("", NINES, "h1s");
    Due.is("no events", x.never(), 0);
    x.event(0, 3, 3);
    x.event(2, 10, 2);
    Due.is("nothing seen", x.never(), 3);
    x.seen(10, 2, 0);
    Due.is("aground by the burst", x.never(), 1);
    x.seen(10, 3, 8);
    Due.is("none in the next one", x.never(), 1);
    x.seen(10, 4, 0);
    Due.is("what cannot be", x.never(), 0);
    x.forget();
    x.seen(10, 3, 0);
    Due.is("gone on, so no burst", x.never(), 2);
    x.forget();
    x.seen(10, 3, 5);
    Due.is("a log that is not told", x.never(), 0);
    Due.is("nothing is changed", x.at(10, 0, 0), 2);
  }

  private static void howDeep() {
    LogFlume x = Due.told("", "5", "a3s");
    Due.is("nothing seen", x.draughts(0), 1022);
    x.seen(2, 2, 0);
    Due.is("in 2 behind 2", x.draughts(0), 30);
    x.seen(4, 3, 0);
    Due.is("in 3 behind 4", x.draughts(0), 8);
    x.seen(5, 3, 8);
    Due.is("and gone", x.draughts(0), 0);
    Due.is("nothing is changed", x.log(0, 1), 3);
    Due.is("nor what comes of it", x.at(4, 0, 0), 3);
    Due.is("draughts(1)", x.draughts(1), LogFlume.BAD);
    Due.is("draughts(-1)", x.draughts(-1), LogFlume.BAD);
    LogFlume y = Due.told("", "5", "a9l");
    y.seen(1, 0, 0);
    y.seen(1, 1, 0);
    Due.is("head and tail", y.draughts(0), 62);
  }

  private static void howSteep() {
    LogFlume x = Due.told("", "5", "a3s");
    Due.is("nothing seen", x.grade(0), 14);
    x.seen(2, 2, 0);
    Due.is("grade(0)", x.grade(0), 2);
    Due.is("grade(1)", x.grade(1), 2);
    Due.is("grade(5)", x.grade(5), 14);
    x.forget();
    x.seen(1, 2, 0);
    // By 3 it comes to 2 as by 2, and finds no water there yet.
    Due.is("grade(0)", x.grade(0), 12);
    Due.is("grade(1)", x.grade(1), 0);
    Due.is("nothing is changed", x.span(0, 0), 1);
    Due.is("nor what comes of it", x.at(1, 0, 0), 1);
    Due.is("grade(-1)", x.grade(-1), LogFlume.BAD);
    Due.is("grade(16)", x.grade(16), LogFlume.BAD);
  }

  private static void asking() {
    LogFlume x = Due.told("", "5", "a3s");
    Due.is("ask(0)", x.ask(0), 2);
    x.seen(2, 2, 0);
    Due.is("of 1 to 4", x.ask(0), 5);
    x.seen(4, 3, 0);
    Due.is("of one", x.ask(0), 0);
    x.seen(0, 15, 0);
    Due.is("of none", x.ask(0), 0);
    Due.is("ask(1)", x.ask(1), LogFlume.BAD);
    Due.is("ask(-1)", x.ask(-1), LogFlume.BAD);
    LogFlume y = Due.told("", "1", "a1s;a1s");
    Due.is("1 goes on, the others stay", y.ask(0), 1);
    Due.is("blocked or aground, the head is in 0", y.ask(1), 0);
  }
}
