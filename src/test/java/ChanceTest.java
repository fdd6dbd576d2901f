/** Promises 28 and 29: chance, seasons. */
public final class ChanceTest {
  private static final String NINES = "9999999999999999";

  public static void main(String[] args) {
    chances();
    eightBursts();
    refusals();
    seasons();
    Due.end();
  }

  private static void fraction(LogFlume x, int c, int log, long above, long below) {
    Due.is("chance(" + c + ", " + log + ", 0)", x.chance(c, log, 0), above);
    Due.is("chance(" + c + ", " + log + ", 1)", x.chance(c, log, 1), below);
  }

  private static void chances() {
    LogFlume x = Due.told("", NINES, "h1s;i1s");
    fraction(x, 0, 0, 1, 1);
    fraction(x, 16, 0, 1, 1);
    fraction(x, 7, 1, 0, 1);
    x.event(2, 10, 2);
    fraction(x, 0, 0, 1, 1);
    fraction(x, 16, 0, 0, 1);
    fraction(x, 4, 0, 3, 4);
    fraction(x, 5, 0, 11, 16);
    fraction(x, 8, 0, 1, 2);
    x.event(2, 10, 2);
    fraction(x, 5, 0, 121, 256);
    x.event(0, 11, 0);
    // By the pole it makes up for the burst, and by no pole only if neither burst is.
    fraction(x, 16, 0, 1, 1);
    fraction(x, 8, 0, 5, 8);
    x.back();
    // By a pole in the last minute the second one comes out behind the first, if no burst is.
    x.event(0, 23, 1);
    fraction(x, 5, 1, 605, 4096);
    Due.is("EVENTS stay", x.count(2), 3);
    x.back();
    fraction(x, 5, 1, 0, 1);
  }

  private static void eightBursts() {
    LogFlume x = Due.told("", NINES, "h1s");
    for (int m = 8; m < 16; m++) {
      x.event(2, m, m - 8);
    }
    fraction(x, 5, 0, 214358881L, 4294967296L);
    fraction(x, 1, 0, 2562890625L, 4294967296L);
    fraction(x, 15, 0, 1, 4294967296L);
    fraction(x, 14, 0, 1, 16777216);
    fraction(x, 16, 0, 0, 1);
    fraction(x, 0, 0, 1, 1);
  }

  private static void refusals() {
    LogFlume x = Due.told("", NINES, "a1s");
    int[][] bad = {{-1, 0, 0}, {17, 0, 0}, {0, -1, 0}, {0, 1, 0}, {0, 0, -1}, {0, 0, 2}};
    for (int[] b : bad) {
      Due.is("chance " + b[0] + " " + b[1] + " " + b[2], x.chance(b[0], b[1], b[2]), Due.BAD_LONG);
    }
    int[][] worse = {{-1, 0}, {17, 0}, {0, -1}, {0, 2}};
    for (int[] b : worse) {
      Due.is("seasons 1 " + b[0] + " " + b[1], x.seasons(1, b[0], b[1]), LogFlume.BAD);
    }
  }

  /** As if the LOTS were told as FEEDERS. */
  private static void seasons() {
    LogFlume none = Due.told("", NINES, "a1s;a1s");
    Due.is("no lots, none out", none.seasons(99, 0, 0), 0);
    Due.is("no lots, one lies", none.seasons(99, 0, 1), 23);
    Object[][] rows = {
      {7, "2684134051310272"}, {0, "0665855900927875"}, {-1, "7926348104375498"},
      {Integer.MIN_VALUE, "8887673128109653"}, {Integer.MAX_VALUE, "9708160322193676"},
    };
    for (Object[] row : rows) {
      int seed = (Integer) row[0];
      for (int n = 0; n <= 16; n++) {
        LogFlume x = Due.told("232", NINES, "a1s;a2l;c5s");
        x.event(1, 3, 0);
        x.event(0, 5, 0);
        LogFlume y = Due.told("232", ((String) row[1]).substring(0, n), "a1s;a2l;c5s");
        y.event(1, 3, 0);
        y.event(0, 5, 0);
        Due.is("seasons(" + seed + ", " + n + ", 0)", x.seasons(seed, n, 0), y.count(3));
        Due.is("seasons(" + seed + ", " + n + ", 1)", x.seasons(seed, n, 1), y.count(4));
        Due.is("FEEDERS stay", x.span(0, 1), 9);
      }
    }
  }
}
