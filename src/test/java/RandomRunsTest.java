import java.util.Random;

/** Many runs of calls by a seed, each answer held against the Model's. */
public final class RandomRunsTest {
  private static final int RUNS = 700;
  private static final int CALLS = 130;
  private static int wrong = 0;
  private static int asked = 0;

  private final Random random;
  private final LogFlume x = new LogFlume();
  private final Model model = new Model();
  private final StringBuilder told = new StringBuilder();

  private RandomRunsTest(long seed) {
    random = new Random(seed);
  }

  public static void main(String[] args) {
    for (int run = 0; run < RUNS && wrong == 0; run++) {
      new RandomRunsTest(run).go();
    }
    System.out.println(asked + " answers, " + wrong + " wrong");
    if (wrong != 0) System.exit(1);
  }

  private void due(String call, long got, long want) {
    asked++;
    told.append(call).append(" = ").append(got).append('\n');
    if (got != want && wrong++ == 0) {
      System.out.println(told + "due is " + want);
    }
  }

  /** Mostly 0 to n - 1, now and then just outside, seldom anything. */
  private int pick(int n) {
    int dice = random.nextInt(40);
    if (dice == 0) return -1;
    if (dice == 1) return n;
    if (dice == 2 && random.nextInt(4) == 0) return random.nextInt();
    return random.nextInt(n);
  }

  private int pickLog() {
    int n = model.setting().logs.size();
    return n == 0 ? pick(2) : pick(n);
  }

  private void typeAll(int text, String bytes) {
    for (int i = 0; i < bytes.length(); i++) {
      int b = bytes.charAt(i);
      due("type(" + text + ", " + b + ")", x.type(text, b), model.type(text, b));
    }
  }

  private void tellText(int text) {
    due("wipe(" + text + ")", x.wipe(text), model.wipe(text));
    StringBuilder b = new StringBuilder();
    if (text == 2) {
      int late = 1 + random.nextInt(12);
      int deep = 1 + random.nextInt(9);
      int n = random.nextInt(9);
      for (int i = 0; i < n; i++) {
        if (i > 0) b.append(';');
        b.append((char) ('a' + random.nextInt(late)));
        b.append((char) ('1' + random.nextInt(deep)));
        b.append(random.nextBoolean() ? 's' : 'l');
      }
    } else {
      int n = random.nextInt(4) == 0 ? random.nextInt(17) : 16;
      int rich = 1 + random.nextInt(10);
      for (int i = 0; i < n; i++) {
        b.append((char) (text == 0 ? '1' + random.nextInt(3) : '0' + random.nextInt(rich)));
      }
    }
    typeAll(text, b.toString());
    if (random.nextInt(6) == 0) {
      int c = random.nextInt(3) == 0 ? pick(256) : "0149;asxlyz:".charAt(random.nextInt(12));
      due("type(" + text + ", " + c + ")", x.type(text, c), model.type(text, c));
      due("fault(" + text + ")", x.fault(text), model.fault(text));
    }
  }

  private void go() {
    for (int text = 0; text < 3; text++) {
      if (random.nextInt(8) != 0) tellText(text);
    }
    for (int i = random.nextInt(9); i > 0; i--) tellEvent();
    for (int i = 0; i < CALLS && wrong == 0; i++) call();
    due("digest()", x.digest(), model.digest());
  }

  private void tellEvent() {
    int kind = pick(3);
    int minute = pick(24);
    int number = kind == 0 && random.nextInt(5) != 0 ? pickLog() : pick(16);
    due("event(" + kind + ", " + minute + ", " + number + ")",
        x.event(kind, minute, number), model.event(kind, minute, number));
  }

  private void call() {
    int kind = random.nextInt(44);
    if (kind < 8) tell(kind);
    else if (kind < 16) look(kind - 8);
    else if (kind < 22) plan(kind - 16);
    else if (kind < 32) infer(kind - 22);
    else sheets(kind - 32);
  }

  private void tell(int kind) {
    int text = pick(3);
    if (kind == 0 && random.nextInt(3) == 0) tellText(random.nextInt(3));
    if (kind == 1) due("undo(" + text + ")", x.undo(text), model.undo(text));
    if (kind == 2) due("fault(" + text + ")", x.fault(text), model.fault(text));
    if (kind == 3) {
      int span = pick(16);
      int what = pick(2);
      due("span(" + span + ", " + what + ")", x.span(span, what), model.span(span, what));
    }
    if (kind == 4) {
      int log = pickLog();
      int what = pick(3);
      due("log(" + log + ", " + what + ")", x.log(log, what), model.log(log, what));
    }
    if (kind == 5) tellEvent();
    if (kind == 6 && random.nextBoolean()) due("back()", x.back(), model.back());
    if (kind == 7) {
      int b = pick(256);
      due("type(" + text + ", " + b + ")", x.type(text, b), model.type(text, b));
      if (model.fault(Math.floorMod(text, 3)) != -1) {
        due("undo(" + text + ")", x.undo(text), model.undo(text));
      }
    }
  }

  private void look(int kind) {
    int m = pick(24);
    int span = pick(16);
    int log = pickLog();
    int two = pick(2);
    int three = pick(3);
    if (kind == 0 || kind == 1) {
      due("flume(" + m + ", " + span + ", " + two + ")", x.flume(m, span, two), model.flume(m, span, two));
    }
    if (kind == 2 || kind == 3) {
      due("at(" + m + ", " + log + ", " + two + ")", x.at(m, log, two), model.at(m, log, two));
    }
    if (kind == 4) due("all(" + m + ", " + two + ")", x.all(m, two), model.all(m, two));
    if (kind == 5) due("out(" + log + ", " + three + ")", x.out(log, three), model.out(log, three));
    if (kind == 6) due("jam()", x.jam(), model.jam());
    if (kind == 7) {
      due("left(" + two + ")", x.left(two), model.left(two));
      due("worst()", x.worst(), model.worst());
    }
  }

  private void plan(int kind) {
    int log = pickLog();
    int two = pick(2);
    int spare = pick(3) - 1;
    if (kind <= 1) due("send(" + log + ", " + two + ")", x.send(log, two), model.send(log, two));
    if (kind == 2) due("steep(" + two + ")", x.steep(two), model.steep(two));
    if (kind == 3) due("fill(" + two + ")", x.fill(two), model.fill(two));
    if (kind >= 4) due("spare(" + spare + ")", x.spare(spare), model.spare(spare));
  }

  /** Mostly what can be seen as all is told, so that there is something to infer. */
  private void see() {
    int m = pick(24);
    int span = pick(16);
    int who = pick(9);
    if (random.nextInt(5) != 0 && m >= 0 && m < 24 && span >= 0 && span < 16) {
      who = model.flume(m, span, 1);
      if (who == -1) who = 8;
    }
    due("seen(" + m + ", " + span + ", " + who + ")", x.seen(m, span, who), model.seen(m, span, who));
  }

  private void infer(int kind) {
    int log = pickLog();
    int span = pick(16);
    int c = pick(17);
    int two = pick(2);
    int seed = random.nextInt();
    if (kind <= 1) see();
    if (kind == 2 && random.nextInt(3) == 0) due("forget()", x.forget(), model.forget());
    if (kind == 3) due("never()", x.never(), model.never());
    if (kind == 4) due("draughts(" + log + ")", x.draughts(log), model.draughts(log));
    if (kind == 5) due("grade(" + span + ")", x.grade(span), model.grade(span));
    if (kind == 6) due("ask(" + log + ")", x.ask(log), model.ask(log));
    if (kind == 7) {
      due("chance(" + c + ", " + log + ", " + two + ")", x.chance(c, log, two), model.chance(c, log, two));
    }
    if (kind >= 8) {
      due("seasons(" + seed + ", " + c + ", " + two + ")", x.seasons(seed, c, two), model.seasons(seed, c, two));
    }
  }

  private void sheets(int kind) {
    int s = pick(4);
    int t = random.nextBoolean() ? s : pick(4);
    int form = pick(3);
    int i = random.nextInt(4) == 0 ? pick(60) : pick(8);
    int j = pick(8);
    int n = random.nextInt(4) == 0 ? pick(61) : pick(9);
    int v = random.nextInt(3) == 0 ? random.nextInt() : random.nextInt(24);
    if (kind <= 1) due("sheet(" + s + ", " + form + ", " + n + ")", x.sheet(s, form, n), model.sheet(s, form, n));
    if (kind == 2 && random.nextInt(4) == 0) due("lose(" + s + ")", x.lose(s), model.lose(s));
    if (kind >= 3 && kind <= 5) {
      due("lay(" + s + ", " + form + ", " + i + ", " + v + ")", x.lay(s, form, i, v), model.lay(s, form, i, v));
    }
    if (kind == 6 || kind == 7) {
      due("get(" + s + ", " + form + ", " + i + ")", x.get(s, form, i), model.get(s, form, i));
    }
    if (kind == 8) {
      due("copy(" + s + ", " + i + ", " + t + ", " + j + ", " + n + ")",
          x.copy(s, i, t, j, n), model.copy(s, i, t, j, n));
    }
    if (kind == 9) {
      int m = pick(24);
      due("write(" + m + ", " + s + ")", x.write(m, s), model.write(m, s));
    }
    if (kind == 10) due("read(" + s + ")", x.read(s), model.read(s));
    int what = pick(9);
    due("count(" + what + ")", x.count(what), model.count(what));
  }
}
