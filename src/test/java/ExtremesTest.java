/** Any arguments in some states: nothing is thrown, and the answers are the Model's. */
public final class ExtremesTest {
  private static final int[] WILD = {Integer.MIN_VALUE, -1000, -2, -1, 0, 1, 2, 3, 7, 8, 9, 15, 16, 17, 23, 24, 59, 60, 61, 255, 256, Integer.MAX_VALUE};
  private static final int[] FEW = {Integer.MIN_VALUE, -1, 0, 1, 3, 4, 5, Integer.MAX_VALUE};

  private final LogFlume x = new LogFlume();
  private final Model model = new Model();

  public static void main(String[] args) {
    new ExtremesTest().ask();
    ExtremesTest told = new ExtremesTest();
    told.tell();
    told.ask();
    Due.end();
  }

  private void tell() {
    String[] texts = {"1233", "94012", "a1s;b4l;b9s"};
    for (int t = 0; t < 3; t++) {
      for (int i = 0; i < texts[t].length(); i++) {
        x.type(t, texts[t].charAt(i));
        model.type(t, texts[t].charAt(i));
      }
    }
    int[][] events = {{0, 3, 0}, {1, 0, 0}, {2, 4, 2}};
    for (int[] e : events) {
      x.event(e[0], e[1], e[2]);
      model.event(e[0], e[1], e[2]);
    }
    for (int s = 0; s < 3; s++) {
      x.sheet(s, s == 2 ? 2 : 1, 4);
      model.sheet(s, s == 2 ? 2 : 1, 4);
    }
  }

  private void ask() {
    for (int a : WILD) {
      one(a);
      for (int b : WILD) {
        two(a, b);
        for (int c : WILD) three(a, b, c);
      }
    }
    for (int a : FEW) for (int b : FEW) for (int c : FEW) four(a, b, c);
    Due.is("digest()", x.digest(), model.digest());
  }

  private void one(int a) {
    Due.is("fault " + a, x.fault(a), model.fault(a));
    Due.is("left " + a, x.left(a), model.left(a));
    Due.is("steep " + a, x.steep(a), model.steep(a));
    Due.is("fill " + a, x.fill(a), model.fill(a));
    Due.is("spare " + a, x.spare(a), model.spare(a));
    Due.is("draughts " + a, x.draughts(a), model.draughts(a));
    Due.is("grade " + a, x.grade(a), model.grade(a));
    Due.is("ask " + a, x.ask(a), model.ask(a));
    Due.is("count " + a, x.count(a), model.count(a));
    if (a < 0 || a > 3) {
      Due.is("read " + a, x.read(a), model.read(a));
      Due.is("lose " + a, x.lose(a), model.lose(a));
      Due.is("wipe " + a, x.wipe(a), model.wipe(a));
      Due.is("undo " + a, x.undo(a), model.undo(a));
    }
  }

  private void two(int a, int b) {
    String call = " " + a + " " + b;
    Due.is("span" + call, x.span(a, b), model.span(a, b));
    Due.is("log" + call, x.log(a, b), model.log(a, b));
    Due.is("all" + call, x.all(a, b), model.all(a, b));
    Due.is("out" + call, x.out(a, b), model.out(a, b));
    Due.is("send" + call, x.send(a, b), model.send(a, b));
    Due.is("write" + call, x.write(a, b), model.write(a, b));
    if (a < 0 || a > 2 || b < 0 || b > 255) {
      Due.is("type" + call, x.type(a, b), model.type(a, b));
    }
  }

  private void three(int a, int b, int c) {
    String call = " " + a + " " + b + " " + c;
    Due.is("flume" + call, x.flume(a, b, c), model.flume(a, b, c));
    Due.is("at" + call, x.at(a, b, c), model.at(a, b, c));
    Due.is("chance" + call, x.chance(a, b, c), model.chance(a, b, c));
    Due.is("seasons" + call, x.seasons(a, b, c), model.seasons(a, b, c));
    Due.is("get" + call, x.get(a, b, c), model.get(a, b, c));
    if (a != 0 || b != 0) {
      Due.is("event" + call, x.event(a, b, c), model.event(a, b, c));
      if (x.count(2) > 3) Due.is("back", x.back(), model.back());
    }
    Due.is("seen" + call, x.seen(a, b, c), model.seen(a, b, c));
    if (x.count(7) > 7) Due.is("forget", x.forget(), model.forget());
  }

  private void four(int a, int b, int c) {
    for (int d : FEW) {
      String call = " " + a + " " + b + " " + c + " " + d;
      Due.is("lay" + call, x.lay(a, b, c, d), model.lay(a, b, c, d));
      for (int e : FEW) {
        Due.is("copy" + call + " " + e, x.copy(a, b, c, d, e), model.copy(a, b, c, d, e));
        Due.is("finding", x.count(8), model.finding);
      }
    }
    if (c != 1) Due.is("sheet", x.sheet(a, b, c), model.sheet(a, b, c));
  }
}
