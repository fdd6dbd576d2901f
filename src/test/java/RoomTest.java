import java.lang.management.ManagementFactory;

/** All calls of a run live in one room: no call makes an object, and a new flume is small. */
public final class RoomTest {
  private static final com.sun.management.ThreadMXBean BEAN = (com.sun.management.ThreadMXBean) ManagementFactory.getThreadMXBean();

  public static void main(String[] args) {
    for (int warm = 0; warm < 3; warm++) useAll(told());
    LogFlume x = told();
    long before = BEAN.getCurrentThreadAllocatedBytes();
    useAll(x);
    long made = BEAN.getCurrentThreadAllocatedBytes() - before;
    System.out.println("bytes made by some 250 calls: " + made);
    // The bean's own answer may cost a little; one row a call would be far above this.
    Due.is("no call makes an object", made < 4096 ? 1 : 0, 1);
    before = BEAN.getCurrentThreadAllocatedBytes();
    LogFlume y = new LogFlume();
    made = BEAN.getCurrentThreadAllocatedBytes() - before;
    System.out.println("bytes made by a new object: " + made);
    Due.is("a new object is small", made < 20000 && y.count(0) == 0 ? 1 : 0, 1);
    Due.end();
  }

  private static LogFlume told() {
    LogFlume x = new LogFlume();
    String logs = "a1s;a1l;b3s;c2l;d1s;e1l;f1s;g1s";
    for (int i = 0; i < logs.length(); i++) x.type(2, logs.charAt(i));
    for (int i = 0; i < 16; i++) {
      x.type(0, '1' + i % 3);
      x.type(1, '0' + i % 10);
    }
    return x;
  }

  private static void useAll(LogFlume x) {
    for (int i = 0; i < 8; i++) x.event(i % 3, i * 2, i);
    for (int i = 0; i < 8; i++) {
      x.at(i, i, 0);
      x.flume(i, i, 1);
      x.all(i, 1);
      x.out(i, 0);
      x.send(i, 0);
      x.draughts(i);
      x.ask(i);
      x.grade(i);
      x.chance(3, i, 0);
      x.seasons(i, 9, 1);
      x.seen(i, i, 8);
    }
    for (int i = 0; i < 20; i++) {
      x.sheet(i % 4, i % 3, 60);
      x.lay(i % 4, i % 3, i, i);
      x.get(i % 4, i % 3, i);
      x.copy(i % 4, 0, i % 4, 1, 59);
      x.write(i, i % 4);
      x.read(i % 4);
    }
    x.spare(0);
    x.steep(0);
    x.fill(0);
    x.never();
    x.jam();
    x.left(0);
    x.worst();
    x.digest();
    x.undo(2);
    x.forget();
    x.back();
    x.wipe(2);
    x.lose(0);
  }
}
