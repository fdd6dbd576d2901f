/** Bounds of the WATER in a MINUTE. */
final class WaterBounds {
  private static final String NINES = "9999999999999999";

  private WaterBounds() {}

  static void all() {
    noneAtFirst();
    goesOnAllAtOnce();
    leaksToNone();
    thatOfTheLastIsGone();
    feedersLetIn();
    twentyAtMost();
    burstHasNone();
  }

  private static void levels(LogFlume x, int minute, int... want) {
    for (int s = 0; s < 16; s++) {
      Due.is("WATER in " + s + " behind " + minute, x.flume(minute, s, 0), s < want.length ? want[s] : 0);
    }
  }

  private static void noneAtFirst() {
    Says.terms("There is no WATER at first.");
    LogFlume x = Due.told("", "99999999", "");
    levels(x, 0, 9, 9, 9, 9, 9, 9, 9, 9);
    for (int s = 0; s < 8; s++) {
      x.event(1, 0, s);
    }
    levels(x, 0);
    levels(x, 1, 9, 9, 9, 9, 9, 9, 9, 9);
  }

  private static void goesOnAllAtOnce() {
    Says.terms("In a MINUTE first all WATER goes on by a SPAN, all at once");
    LogFlume x = Due.told("", "7", "");
    levels(x, 0, 7);
    levels(x, 1, 7, 6);
    levels(x, 2, 7, 6, 5);
    x.event(1, 1, 0);
    levels(x, 1, 0, 6);
    levels(x, 2, 7, 0, 5);
    levels(x, 3, 7, 6, 0, 4);
  }

  private static void leaksToNone() {
    Says.terms("and each SPAN that has any then LEAKS 1.");
    levels(Due.told("", "1", ""), 23, 1);
    levels(Due.told("", "2", ""), 0, 2);
    levels(Due.told("", "2", ""), 1, 2, 1);
    levels(Due.told("", "2", ""), 23, 2, 1);
    levels(Due.told("", "3", ""), 23, 3, 2, 1);
    // A dry one has none to leak: what the feeder lets in stays whole.
    levels(Due.told("", "0101", ""), 23, 0, 1, 0, 1);
    levels(new LogFlume(), 23);
  }

  private static void thatOfTheLastIsGone() {
    Says.terms("(that of SPAN 15 is gone),");
    LogFlume x = Due.told("", "0000000000000009", "");
    for (int minute = 0; minute < 24; minute++) {
      levels(x, minute, 0, 0, 0, 0, 0, 0, 0, 0, 0, 0, 0, 0, 0, 0, 0, 9);
      Due.is("in all", x.all(minute, 0), 9);
    }
    LogFlume y = Due.told("", "0000000000000020", "");
    levels(y, 0, 0, 0, 0, 0, 0, 0, 0, 0, 0, 0, 0, 0, 0, 0, 2);
    levels(y, 1, 0, 0, 0, 0, 0, 0, 0, 0, 0, 0, 0, 0, 0, 0, 2, 1);
    levels(y, 23, 0, 0, 0, 0, 0, 0, 0, 0, 0, 0, 0, 0, 0, 0, 2, 1);
  }

  private static void feedersLetIn() {
    Says.terms("Then each FEEDER that is not SHUT lets in what is told,");
    LogFlume x = Due.told("", "13", "");
    levels(x, 0, 1, 3);
    levels(x, 1, 1, 3, 2);
    x.event(1, 1, 1);
    levels(x, 1, 1, 0, 2);
    levels(x, 2, 1, 3, 0, 1);
    levels(x, 3, 1, 3, 2);
    x.event(1, 1, 1);
    levels(x, 1, 1, 0, 2);
  }

  private static void twentyAtMost() {
    Says.terms("to 20 in a SPAN at most.");
    levels(Due.told("", "993", ""), 2, 9, 17, 19, 10, 1);
    levels(Due.told("", "994", ""), 2, 9, 17, 20, 11, 2);
    levels(Due.told("", "995", ""), 2, 9, 17, 20, 12, 3);
    LogFlume x = Due.told("", NINES, "");
    for (int s = 2; s < 16; s++) {
      Due.is("SPAN " + s, x.flume(23, s, 0), 20);
    }
    Due.is("in all", x.all(23, 0), 9 + 17 + 14 * 20);
    x.event(1, 23, 15);
    Due.is("of 20 above it, 19 come", x.flume(23, 15, 0), 19);
  }

  private static void burstHasNone() {
    Says.terms("A SPAN that BURSTS has none then.");
    LogFlume x = Due.told("", "55", "");
    levels(x, 2, 5, 9, 8, 3);
    x.event(2, 2, 1);
    levels(x, 1, 5, 9, 4);
    levels(x, 2, 5, 0, 8, 3);
    levels(x, 3, 5, 9, 0, 7, 2);
    x.event(1, 2, 1);
    levels(x, 2, 5, 0, 8, 3);
    x.event(2, 2, 9);
    levels(x, 2, 5, 0, 8, 3);
  }
}
