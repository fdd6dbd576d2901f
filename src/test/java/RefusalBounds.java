import java.util.function.Consumer;
import java.util.function.ToLongFunction;

/** What is refused, in which order, and that it changes nothing. */
final class RefusalBounds {
  private static final int NONE = LogFlume.NONE, BAD = LogFlume.BAD, NOT = LogFlume.NOT, FULL = LogFlume.FULL;
  private static final int LEAST = Integer.MIN_VALUE, MOST = Integer.MAX_VALUE;
  private static final int NULL = -11, INDEX = -12, CAST = -13, STORE = -14, SIZE = -15;

  private static Consumer<LogFlume> state = x -> {};

  private RefusalBounds() {}

  static void all() {
    theFirstThatFits();
    newOnesChangeNothing();
    toldOnesChangeNothing();
    fullOnesChangeNothing();
    leastLong();
  }

  private static void tellSome(LogFlume x) {
    Due.type(x, 0, "212");
    Due.type(x, 1, "905");
    Due.type(x, 2, "a1s;a3l");
    Due.events(x, new int[] {0, 4, 0}, new int[] {2, 9, 3});
    x.seen(1, 2, 0);
    x.sheet(0, 0, 3);
    x.sheet(1, 1, 5);
    for (int i = 0; i < 3; i++) {
      x.lay(0, 0, i, 7 + i);
      x.lay(1, 1, i, 1000 + i);
    }
  }

  private static void tellAll(LogFlume x) {
    Due.type(x, 0, "1231231231231231");
    Due.type(x, 1, "9012345678901234");
    Due.type(x, 2, "a1s;a2l;b3s;b4l;c5s;d1s;e1l;f1s");
    for (int i = 0; i < 8; i++) {
      x.event(i % 3, 2 * i, i);
      x.seen(i, 15, 8);
    }
    for (int s = 0; s < 4; s++) {
      x.sheet(s, s % 3, s == 2 ? 0 : 60);
      for (int i = 0; i < 60; i++) {
        x.lay(s, s % 3, i, 100 - i);
      }
    }
  }

  private static void theFirstThatFits() {
    Says.terms("Refusals, the first that fits, in the order told at each act: "
        + "BAD -2 (a number not as told, no such thing), NULL, NOT -3 (as told), FULL -4, other FINDINGS.");
    LogFlume x = new LogFlume();
    tellAll(x);
    x.lose(1);
    int before = x.count(8);
    Due.is("type: BAD, FULL", x.type(0, 256), BAD);
    Due.is("type: FULL", x.type(0, 255), FULL);
    Due.is("event: BAD, FULL", x.event(0, 0, 16), BAD);
    Due.is("event: FULL", x.event(0, 0, 15), FULL);
    Due.is("seen: BAD, FULL", x.seen(0, 0, 9), BAD);
    Due.is("seen: FULL", x.seen(0, 0, 8), FULL);
    Due.is("sheet: BAD, SIZE", x.sheet(4, 0, -1), BAD);
    Due.is("lay: BAD, NULL, INDEX", x.lay(1, 3, -1, 0), BAD);
    Due.is("get: BAD, NULL, INDEX", x.get(1, 3, -1), LEAST);
    Due.is("copy: BAD, NULL, INDEX", x.copy(1, -1, 4, -1, -1), BAD);
    Due.is("write: BAD, NULL", x.write(24, 1), BAD);
    Due.is("BAD and FULL are no FINDINGS", x.count(8), before);
    Due.is("sheet: SIZE", x.sheet(3, 0, -1), SIZE);
    Due.is("lay: NULL, INDEX", x.lay(1, 0, -1, 0), NULL);
    Due.is("lay: CAST, INDEX", x.lay(0, 1, 60, 0), CAST);
    Due.is("lay: INDEX", x.lay(0, 0, 60, 0), INDEX);
    Due.is("copy: NULL, STORE, INDEX", x.copy(2, -1, 1, 99, -1), NULL);
    Due.is("copy: STORE, INDEX", x.copy(2, -1, 0, 99, -1), STORE);
    Due.is("copy: INDEX", x.copy(3, -1, 0, 99, -1), INDEX);
    Due.is("read: NULL though EVENTS are full", x.read(1), NULL);
    Due.is("of a text that is not, no NOT", new LogFlume().undo(3), BAD);
    Due.is("of a text that is empty", new LogFlume().undo(2), NOT);
    Due.is("of no EVENTS", new LogFlume().back(), NOT);
  }

  private static void alike(String call, LogFlume x, LogFlume y) {
    Due.is(call + " leaves the digest", x.digest(), y.digest());
    for (int m = 0; m < 24; m++) {
      for (int s = 0; s < 16; s++) {
        Due.is(call + " leaves the water", x.flume(m, s, 0), y.flume(m, s, 0));
        Due.is(call + " leaves who lies there", x.flume(m, s, 1), y.flume(m, s, 1));
      }
    }
    for (int s = 0; s < 4; s++) {
      for (int form = 0; form < 3; form++) {
        for (int i = 0; i < 60; i++) {
          int item = y.get(s, form, i);
          Due.is(call + " leaves the items", x.get(s, form, i), item);
          // No item is the least int here, so that both have a new FINDING then.
          Due.is(call + " leaves the forms", item == LEAST ? x.count(8) : 0, item == LEAST ? y.count(8) : 0);
        }
      }
      Due.is(call + " leaves the sizes", x.lose(s), y.lose(s));
    }
    // What lies below shows only when what lies above it is undone.
    for (int i = 0; i < 9; i++) {
      Due.is(call + " leaves EVENTS", x.back(), y.back());
      Due.is(call + " leaves what they do", x.digest(), y.digest());
    }
    for (int text = 0; text < 3; text++) {
      for (int i = 0; i < 32; i++) {
        Due.is(call + " leaves the bytes", x.undo(text), y.undo(text));
        Due.is(call + " leaves their fault", x.fault(text), y.fault(text));
        Due.is(call + " leaves what they say", x.log(0, 1) + 100 * x.span(i % 16, text % 2), y.log(0, 1) + 100 * y.span(i % 16, text % 2));
      }
    }
    Due.is(call + " leaves SEEN", x.forget(), y.forget());
    Due.is(call + " leaves all", x.digest(), y.digest());
  }

  /** The call is made on one of two objects that are alike, and both must stay alike. */
  private static void refused(String call, int finding, long want, ToLongFunction<LogFlume> made) {
    LogFlume x = new LogFlume();
    LogFlume y = new LogFlume();
    state.accept(x);
    state.accept(y);
    int before = x.count(8);
    Due.is(call, made.applyAsLong(x), want);
    Due.is(call + ": count(8)", x.count(8), finding == 0 ? before : finding);
    alike(call, x, y);
  }

  private static void bad(String call, ToLongFunction<LogFlume> made) {
    refused(call, 0, BAD, made);
  }

  private static void found(String call, int answer, ToLongFunction<LogFlume> made) {
    refused(call, -10 - answer, answer, made);
  }

  /** Whatever the state is, these are BAD. */
  private static void alwaysBad() {
    for (int wrong : new int[] {-1, MOST}) {
      bad("type(" + wrong + ", 49)", x -> x.type(wrong, 49));
      bad("wipe(" + wrong + ")", x -> x.wipe(wrong));
      bad("undo(" + wrong + ")", x -> x.undo(wrong));
      bad("fault(" + wrong + ")", x -> x.fault(wrong));
      bad("span(" + wrong + ", 0)", x -> x.span(wrong, 0));
      bad("log(" + wrong + ", 0)", x -> x.log(wrong, 0));
      bad("event(" + wrong + ", 0, 0)", x -> x.event(wrong, 0, 0));
      bad("event(0, 0, " + wrong + ")", x -> x.event(0, 0, wrong));
      bad("read(" + wrong + ")", x -> x.read(wrong));
      bad("flume(0, 0, " + wrong + ")", x -> x.flume(0, 0, wrong));
      bad("at(0, " + wrong + ", 0)", x -> x.at(0, wrong, 0));
      bad("all(" + wrong + ", 0)", x -> x.all(wrong, 0));
      bad("out(" + wrong + ", 0)", x -> x.out(wrong, 0));
      bad("left(" + wrong + ")", x -> x.left(wrong));
      bad("send(" + wrong + ", 0)", x -> x.send(wrong, 0));
      bad("steep(" + wrong + ")", x -> x.steep(wrong));
      bad("fill(" + wrong + ")", x -> x.fill(wrong));
      bad("spare(" + (wrong - 1) + ")", x -> x.spare(wrong - 1));
      bad("seen(" + wrong + ", 0, 0)", x -> x.seen(wrong, 0, 0));
      bad("seen(0, 0, " + wrong + ")", x -> x.seen(0, 0, wrong));
      bad("draughts(" + wrong + ")", x -> x.draughts(wrong));
      bad("grade(" + wrong + ")", x -> x.grade(wrong));
      bad("ask(" + wrong + ")", x -> x.ask(wrong));
      refused("chance(" + wrong + ", 0, 0)", 0, Due.BAD_LONG, x -> x.chance(wrong, 0, 0));
      bad("seasons(0, " + wrong + ", 0)", x -> x.seasons(0, wrong, 0));
      bad("sheet(" + wrong + ", 0, 1)", x -> x.sheet(wrong, 0, 1));
      bad("sheet(0, " + wrong + ", 1)", x -> x.sheet(0, wrong, 1));
      bad("sheet(0, 0, 61)", x -> x.sheet(0, 0, 61));
      bad("lose(" + wrong + ")", x -> x.lose(wrong));
      bad("lay(" + wrong + ", 0, 0, 1)", x -> x.lay(wrong, 0, 0, 1));
      bad("lay(0, " + wrong + ", 0, 1)", x -> x.lay(0, wrong, 0, 1));
      refused("get(0, " + wrong + ", 0)", 0, LEAST, x -> x.get(0, wrong, 0));
      bad("copy(" + wrong + ", 0, 0, 1, 1)", x -> x.copy(wrong, 0, 0, 1, 1));
      bad("copy(0, 0, " + wrong + ", 1, 1)", x -> x.copy(0, 0, wrong, 1, 1));
      bad("write(" + wrong + ", 0)", x -> x.write(wrong, 0));
      bad("write(0, " + wrong + ")", x -> x.write(0, wrong));
      bad("count(" + wrong + ")", x -> x.count(wrong));
    }
    for (int text = 0; text < 3; text++) {
      int t = text;
      bad("type(" + t + ", 256)", x -> x.type(t, 256));
    }
    found("sheet(0, 1, -1)", SIZE, x -> x.sheet(0, 1, -1));
  }

  private static void newOnesChangeNothing() {
    Says.terms("They change nothing (FINDINGS but count() 8).");
    state = x -> {};
    alwaysBad();
    for (int text = 0; text < 3; text++) {
      int t = text;
      refused("undo(" + t + ")", 0, NOT, x -> x.undo(t));
    }
    refused("back()", 0, NOT, x -> x.back());
    for (int sheet = 0; sheet < 4; sheet++) {
      int s = sheet;
      found("read(" + s + ")", NULL, x -> x.read(s));
      found("lose(" + s + ")", NULL, x -> x.lose(s));
      found("lay(" + s + ", 0, 0, 1)", NULL, x -> x.lay(s, 0, 0, 1));
      refused("get(" + s + ", 0, 0)", 1, LEAST, x -> x.get(s, 0, 0));
      found("copy(" + s + ", 0, 0, 0, 0)", NULL, x -> x.copy(s, 0, 0, 0, 0));
      found("write(0, " + s + ")", NULL, x -> x.write(0, s));
    }
  }

  private static void toldOnesChangeNothing() {
    Says.terms("They change nothing (FINDINGS but count() 8).");
    state = RefusalBounds::tellSome;
    alwaysBad();
    found("lay(0, 1, 0, 1)", CAST, x -> x.lay(0, 1, 0, 1));
    found("lay(0, 0, 3, 1)", INDEX, x -> x.lay(0, 0, 3, 1));
    found("lay(1, 1, -1, 1)", INDEX, x -> x.lay(1, 1, -1, 1));
    refused("get(0, 1, 0)", 3, LEAST, x -> x.get(0, 1, 0));
    refused("get(0, 0, 3)", 2, LEAST, x -> x.get(0, 0, 3));
    found("copy(0, 0, 1, 0, 1)", STORE, x -> x.copy(0, 0, 1, 0, 1));
    found("copy(1, 0, 0, 0, 1)", STORE, x -> x.copy(1, 0, 0, 0, 1));
    found("copy(0, 0, 0, 1, 3)", INDEX, x -> x.copy(0, 0, 0, 1, 3));
    found("copy(0, 1, 0, 0, 3)", INDEX, x -> x.copy(0, 1, 0, 0, 3));
    found("copy(0, 0, 3, 0, 1)", NULL, x -> x.copy(0, 0, 3, 0, 1));
    found("copy(3, 0, 0, 0, 1)", NULL, x -> x.copy(3, 0, 0, 0, 1));
    found("write(23, 2)", NULL, x -> x.write(23, 2));
    found("read(3)", NULL, x -> x.read(3));
  }

  private static void fullOnesChangeNothing() {
    Says.terms("They change nothing (FINDINGS but count() 8).");
    state = RefusalBounds::tellAll;
    alwaysBad();
    for (int text = 0; text < 3; text++) {
      int t = text;
      refused("type(" + t + ", 49)", 0, FULL, x -> x.type(t, 49));
      refused("type(" + t + ", 0)", 0, FULL, x -> x.type(t, 0));
    }
    refused("event(0, 0, 0)", 0, FULL, x -> x.event(0, 0, 0));
    refused("seen(0, 0, 0)", 0, FULL, x -> x.seen(0, 0, 0));
    found("lay(2, 2, 0, 1)", INDEX, x -> x.lay(2, 2, 0, 1));
    found("lay(3, 0, 60, 1)", INDEX, x -> x.lay(3, 0, 60, 1));
    found("copy(3, 0, 0, 1, 60)", INDEX, x -> x.copy(3, 0, 0, 1, 60));
    found("copy(3, 1, 0, 0, 60)", INDEX, x -> x.copy(3, 1, 0, 0, 60));
    // No EVENT of a SHEET fits, which is no refusal, and changes nothing either.
    refused("read(0)", 0, 0, x -> x.read(0));
  }

  private static void leastLong() {
    Says.terms("Where the answer is a long, a refusal -x is the least long and x more.");
    LogFlume x = Due.told("", "", "a1s");
    for (long got : new long[] {x.chance(-1, 0, 0), x.chance(17, 0, 0), x.chance(0, 1, 0), x.chance(0, 0, NONE), x.chance(0, 0, 2)}) {
      Due.is("BAD", got, Long.MIN_VALUE + 2);
    }
  }
}
