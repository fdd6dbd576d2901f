/** Promises 36 and 37: count, digest. */
public final class CountTest {
  private static LogFlume x;
  private static long h;

  public static void main(String[] args) {
    counting();
    digests();
    Due.end();
  }

  private static void counting() {
    x = Due.told("", "9", "a9s;a1s");
    int[] want = {2, 8, 0, 0, 22, 22, 45, 0, 0};
    for (int what = 0; what <= 8; what++) {
      Due.is("count(" + what + ")", x.count(what), want[what]);
    }
    Due.is("count(-1)", x.count(-1), LogFlume.BAD);
    Due.is("count(9)", x.count(9), LogFlume.BAD);
    x.event(2, 23, 0);
    x.seen(0, 0, 0);
    x.copy(0, 0, 0, 0, 0);
    Due.is("count(2)", x.count(2), 1);
    Due.is("count(6)", x.count(6), 36);
    Due.is("count(7)", x.count(7), 1);
    Due.is("count(8)", x.count(8), 1);
    x = Due.told("", "9999999999999999", "a1s;b1s;i1s");
    Due.is("count(3)", x.count(3), 2);
  }

  private static void mix(long part) {
    h = 31 * h + part;
  }

  private static long byCalls() {
    h = 17;
    for (int what = 0; what < 8; what++) mix(x.count(what));
    for (int text = 0; text < 3; text++) mix(x.fault(text));
    for (int m = 0; m < 24; m++) {
      mix(x.all(m, 0));
      mix(x.all(m, 1));
    }
    for (int s = 0; s < 16; s++) {
      mix(x.span(s, 0));
      mix(x.span(s, 1));
      mix(x.flume(7, s, 0));
      mix(x.flume(7, s, 1));
      mix(x.flume(18, s, 0));
      mix(x.flume(18, s, 1));
      mix(x.grade(s));
    }
    for (int log = 0; log < x.count(0); log++) mixLog(log);
    mix(x.jam());
    mix(x.left(0));
    mix(x.left(1));
    mix(x.worst());
    mix(x.steep(0));
    mix(x.steep(1));
    mix(x.fill(0));
    mix(x.fill(1));
    mix(x.spare(LogFlume.NONE));
    mix(x.spare(0));
    mix(x.never());
    mix(x.seasons(7, 11, 0));
    mix(x.seasons(7, 11, 1));
    return h;
  }

  private static void mixLog(int log) {
    for (int what = 0; what < 3; what++) mix(x.log(log, what));
    for (int m : new int[] {0, 6, 13, 23}) {
      mix(x.at(m, log, 0));
      mix(x.at(m, log, 1));
    }
    for (int what = 0; what < 3; what++) mix(x.out(log, what));
    mix(x.send(log, 0));
    mix(x.send(log, 1));
    mix(x.draughts(log));
    mix(x.ask(log));
    mix(x.chance(5, log, 0));
    mix(x.chance(5, log, 1));
  }

  private static void digests() {
    x = new LogFlume();
    Due.is("digest() of a new one", x.digest(), byCalls());
    x = Due.told("12213", "93202301", "a1s;a3l;d2s;b9l");
    x.event(0, 4, 0);
    x.event(1, 2, 0);
    x.event(2, 9, 3);
    x.seen(3, 2, 8);
    long before = x.digest();
    Due.is("digest()", before, byCalls());
    Due.is("digest() again", x.digest(), before);
    x.sheet(0, 0, 5);
    x.lay(0, 0, 1, 1);
    x.get(1, 0, 0);
    Due.is("SHEETS and FINDINGS do not count", x.digest(), before);
    x.type(2, 's');
    Due.is("with a fault", x.digest(), byCalls());
    x.undo(2);
    Due.is("undone", x.digest(), before);
    x.forget();
    x.back();
    Due.is("with less", x.digest(), byCalls());
  }
}
