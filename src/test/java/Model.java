import java.util.ArrayList;
import java.util.Arrays;
import java.util.HashMap;
import java.util.List;
import java.util.Map;

/**
 * The document once more, as slowly and plainly as it can be said: every answer is worked out
 * anew from what was told, nothing is kept, and the SHEETS are rows of Java itself, whose own
 * exceptions are the FINDINGS. RandomRunsTest holds LogFlume against it.
 */
final class Model {
  static final int NONE = -1, BAD = -2, NOT = -3, FULL = -4;

  /** What a flume is worked out from. */
  static final class Setting {
    int[] slopes = new int[16];
    int[] feeders = new int[16];
    List<int[]> logs = new ArrayList<>();
    List<int[]> events = new ArrayList<>();

    Setting copy() {
      Setting c = new Setting();
      c.slopes = slopes.clone();
      c.feeders = feeders.clone();
      for (int[] log : logs) c.logs.add(log.clone());
      for (int[] event : events) c.events.add(event.clone());
      return c;
    }
  }

  /** What came of a setting. */
  static final class Course {
    final int[][] water = new int[24][16];
    final int[][] head;
    final int[][] state;
    final Setting by;

    Course(Setting by) {
      this.by = by;
      int n = by.logs.size();
      head = new int[24][n];
      state = new int[24][n];
      int[] w = new int[16];
      int[] h = new int[n];
      Arrays.fill(h, NONE);
      for (int m = 0; m < 24; m++) {
        w = flow(w, m);
        water[m] = w.clone();
        for (int log : order(h)) {
          state[m][log] = turn(h, w, m, log);
        }
        head[m] = h.clone();
      }
    }

    private boolean happens(int kind, int minute, int number) {
      for (int[] e : by.events) {
        if (e[0] == kind && e[1] == minute && e[2] == number) return true;
      }
      return false;
    }

    private int[] flow(int[] before, int m) {
      int[] w = new int[16];
      for (int s = 15; s >= 1; s--) w[s] = before[s - 1];
      for (int s = 0; s < 16; s++) {
        if (w[s] > 0) w[s] -= 1;
        if (!happens(1, m, s)) w[s] += by.feeders[s];
        if (w[s] > 20) w[s] = 20;
        if (happens(2, m, s)) w[s] = 0;
      }
      return w;
    }

    /** Lowest head first; those that are not put in, with NONE, come last. */
    private List<Integer> order(int[] h) {
      List<Integer> order = new ArrayList<>();
      for (int log = 0; log < h.length; log++) order.add(log);
      order.sort((a, b) -> h[a] != h[b] ? Integer.compare(h[b], h[a]) : Integer.compare(a, b));
      return order;
    }

    private boolean taken(int[] h, int span, int but) {
      for (int log = 0; log < h.length; log++) {
        if (log != but && lies(h[log], by.logs.get(log)[2] == 1, span)) return true;
      }
      return false;
    }

    private int turn(int[] h, int[] w, int m, int log) {
      int[] told = by.logs.get(log);
      if (h[log] == 16) return 0;
      if (h[log] == NONE) {
        if (told[0] <= m && !taken(h, 0, log)) h[log] = 0;
        return 0;
      }
      boolean pole = happens(0, m, log);
      int far = by.slopes[h[log]];
      if (pole) far++;
      while (far > 0 && h[log] < 16) {
        if (!pole && w[h[log]] < told[1]) return 1;
        if (h[log] < 15 && taken(h, h[log] + 1, log)) return 2;
        h[log]++;
        far--;
      }
      return 0;
    }

    static boolean lies(int head, boolean isLong, int span) {
      if (head == NONE || head == 16) return false;
      return head == span || isLong && head >= 1 && head - 1 == span;
    }

    int who(int minute, int span) {
      for (int log = 0; log < by.logs.size(); log++) {
        if (lies(head[minute][log], by.logs.get(log)[2] == 1, span)) return log;
      }
      return NONE;
    }

    int minuteOut(int log) {
      for (int m = 0; m < 24; m++) if (head[m][log] == 16) return m;
      return NONE;
    }

    int minutes(int log, int of) {
      int n = 0;
      for (int m = 0; m < 24; m++) if (state[m][log] == of) n++;
      return n;
    }

    int howManyOut() {
      int n = 0;
      for (int log = 0; log < by.logs.size(); log++) if (minuteOut(log) != NONE) n++;
      return n;
    }
  }

  final StringBuilder[] texts = {new StringBuilder(), new StringBuilder(), new StringBuilder()};
  List<int[]> events = new ArrayList<>();
  final List<int[]> sights = new ArrayList<>();
  final Object[] sheets = new Object[4];
  int finding = 0;

  private static boolean in(int x, int low, int high) {
    return low <= x && x <= high;
  }

  private int logs() {
    return setting().logs.size();
  }

  Setting setting() {
    Setting s = new Setting();
    Arrays.fill(s.slopes, 1);
    if (fault(0) == NONE) for (int i = 0; i < texts[0].length(); i++) s.slopes[i] = texts[0].charAt(i) - '0';
    if (fault(1) == NONE) for (int i = 0; i < texts[1].length(); i++) s.feeders[i] = texts[1].charAt(i) - '0';
    if (fault(2) == NONE && texts[2].length() > 0) {
      for (String log : texts[2].toString().split(";")) {
        s.logs.add(new int[] {log.charAt(0) - 'a', log.charAt(1) - '0', log.charAt(2) == 'l' ? 1 : 0});
      }
    }
    for (int[] e : events) s.events.add(e);
    return s;
  }

  Course course() {
    return new Course(setting());
  }

  int type(int text, int b) {
    if (!in(text, 0, 2) || !in(b, 0, 255)) return BAD;
    if (texts[text].length() == (text == 2 ? 31 : 16)) return FULL;
    texts[text].append((char) b);
    return texts[text].length();
  }

  int wipe(int text) {
    if (!in(text, 0, 2)) return BAD;
    int n = texts[text].length();
    texts[text].setLength(0);
    return n;
  }

  int undo(int text) {
    if (!in(text, 0, 2)) return BAD;
    if (texts[text].length() == 0) return NOT;
    texts[text].setLength(texts[text].length() - 1);
    return texts[text].length();
  }

  /** The longest beginning that some well text begins with ends at the FAULT. */
  int fault(int text) {
    if (!in(text, 0, 2)) return BAD;
    String t = texts[text].toString();
    String[] may = {"[1-3]*", "[0-9]*", "([a-x][1-9][sl];)*([a-x]([1-9]([sl])?)?)?"};
    for (int n = 0; n < t.length(); n++) {
      if (!t.substring(0, n + 1).matches(may[text])) return n;
    }
    if (text == 2 && !t.isEmpty() && !t.matches("([a-x][1-9][sl];)*[a-x][1-9][sl]")) return t.length();
    return NONE;
  }

  int span(int span, int what) {
    if (!in(span, 0, 15) || !in(what, 0, 1)) return BAD;
    return what == 0 ? setting().slopes[span] : setting().feeders[span];
  }

  int log(int log, int what) {
    if (!in(log, 0, logs() - 1) || !in(what, 0, 2)) return BAD;
    return setting().logs.get(log)[what];
  }

  int event(int kind, int minute, int number) {
    if (!in(kind, 0, 2) || !in(minute, 0, 23) || !in(number, 0, 15)) return BAD;
    if (events.size() == 8) return FULL;
    events.add(new int[] {kind, minute, number});
    return events.size();
  }

  int back() {
    if (events.isEmpty()) return NOT;
    events.remove(events.size() - 1);
    return events.size();
  }

  int read(int s) {
    if (!in(s, 0, 3)) return BAD;
    if (sheets[s] == null) return find(1);
    int n = 0;
    int size = java.lang.reflect.Array.getLength(sheets[s]);
    while (3 * n + 3 <= size) {
      int answer = event(item(s, 3 * n), item(s, 3 * n + 1), item(s, 3 * n + 2));
      if (answer < 0) break;
      n++;
    }
    return n;
  }

  private int item(int s, int i) {
    return ((Number) java.lang.reflect.Array.get(sheets[s], i)).intValue();
  }

  int flume(int minute, int span, int what) {
    if (!in(minute, 0, 23) || !in(span, 0, 15) || !in(what, 0, 1)) return BAD;
    return what == 0 ? course().water[minute][span] : course().who(minute, span);
  }

  int at(int minute, int log, int what) {
    if (!in(minute, 0, 23) || !in(log, 0, logs() - 1) || !in(what, 0, 1)) return BAD;
    return what == 0 ? course().head[minute][log] : course().state[minute][log];
  }

  int all(int minute, int what) {
    if (!in(minute, 0, 23) || !in(what, 0, 1)) return BAD;
    if (what == 0) return Arrays.stream(course().water[minute]).sum();
    return (int) Arrays.stream(course().head[minute]).filter(h -> in(h, 0, 15)).count();
  }

  int out(int log, int what) {
    if (!in(log, 0, logs() - 1) || !in(what, 0, 2)) return BAD;
    return what == 0 ? course().minuteOut(log) : course().minutes(log, what);
  }

  int jam() {
    Course c = course();
    for (int m = 0; m < 24; m++) for (int s : c.state[m]) if (s == 2) return m;
    return NONE;
  }

  int left(int what) {
    if (!in(what, 0, 1)) return BAD;
    Course c = course();
    int bits = 0;
    if (what == 1) {
      for (int log = 0; log < logs(); log++) if (c.minuteOut(log) == NONE) bits |= 1 << log;
      return bits;
    }
    for (int s = 0; s < 16; s++) {
      boolean wet = false;
      for (int m = 0; m < 24; m++) wet |= c.water[m][s] > 0;
      if (!wet) bits |= 1 << s;
    }
    return bits;
  }

  int worst() {
    Course c = course();
    int worst = NONE;
    for (int log = logs() - 1; log >= 0; log--) {
      int lain = c.minutes(log, 1);
      if (lain > 0 && (worst == NONE || lain >= c.minutes(worst, 1))) worst = log;
    }
    return worst;
  }

  private static int[] most(int[] outs) {
    int at = 0;
    for (int i = 0; i < outs.length; i++) if (outs[i] > outs[at]) at = i;
    return new int[] {at, outs[at]};
  }

  int send(int log, int what) {
    if (!in(log, 0, logs() - 1) || !in(what, 0, 1)) return BAD;
    int[] outs = new int[24];
    for (int m = 0; m < 24; m++) {
      Setting s = setting().copy();
      s.logs.get(log)[0] = m;
      outs[m] = new Course(s).howManyOut();
    }
    return most(outs)[what];
  }

  int steep(int what) {
    if (!in(what, 0, 1)) return BAD;
    int[] outs = new int[16];
    for (int p = 0; p < 16; p++) {
      Setting s = setting().copy();
      if (s.slopes[p] < 3) s.slopes[p]++;
      outs[p] = new Course(s).howManyOut();
    }
    return most(outs)[what];
  }

  int fill(int what) {
    if (!in(what, 0, 1)) return BAD;
    int[] outs = new int[16];
    for (int p = 0; p < 16; p++) {
      Setting s = setting().copy();
      s.feeders[p] = Math.min(9, s.feeders[p] + 2);
      outs[p] = new Course(s).howManyOut();
    }
    return most(outs)[what];
  }

  int spare(int i) {
    if (!in(i, -1, 1)) return BAD;
    List<int[]> rows = new ArrayList<>();
    rows.add(new int[] {});
    for (int a = 0; a < events.size(); a++) rows.add(new int[] {a});
    for (int a = 0; a < events.size(); a++) {
      for (int b = a + 1; b < events.size(); b++) rows.add(new int[] {a, b});
    }
    for (int[] row : rows) {
      Setting s = setting().copy();
      for (int k = row.length - 1; k >= 0; k--) s.events.remove(row[k]);
      if (new Course(s).howManyOut() == logs()) {
        return i == NONE ? row.length : i < row.length ? row[i] : NONE;
      }
    }
    return NONE;
  }

  int seen(int minute, int span, int log) {
    if (!in(minute, 0, 23) || !in(span, 0, 15) || !in(log, 0, 8)) return BAD;
    if (sights.size() == 8) return FULL;
    sights.add(new int[] {minute, span, log});
    return sights.size();
  }

  int forget() {
    int n = sights.size();
    sights.clear();
    return n;
  }

  private boolean fits(Setting s) {
    Course c = new Course(s);
    for (int[] sight : sights) {
      int who = c.who(sight[0], sight[1]);
      if ((who == NONE ? 8 : who) != sight[2]) return false;
    }
    return true;
  }

  int never() {
    int bits = 0;
    for (int e = 0; e < events.size(); e++) {
      Setting s = setting().copy();
      s.events.remove(e);
      if (fits(s)) bits |= 1 << e;
    }
    return bits;
  }

  private Setting deep(int log, int draught) {
    Setting s = setting().copy();
    s.logs.get(log)[1] = draught;
    return s;
  }

  int draughts(int log) {
    if (!in(log, 0, logs() - 1)) return BAD;
    int bits = 0;
    for (int d = 1; d <= 9; d++) if (fits(deep(log, d))) bits |= 1 << d;
    return bits;
  }

  int grade(int span) {
    if (!in(span, 0, 15)) return BAD;
    int bits = 0;
    for (int g = 1; g <= 3; g++) {
      Setting s = setting().copy();
      s.slopes[span] = g;
      if (fits(s)) bits |= 1 << g;
    }
    return bits;
  }

  int ask(int log) {
    if (!in(log, 0, logs() - 1)) return BAD;
    int bits = draughts(log);
    int minute = NONE;
    int least = 0;
    for (int m = 0; m < 24; m++) {
      Map<String, Integer> groups = new HashMap<>();
      int greatest = 0;
      for (int d = 1; d <= 9; d++) {
        if ((bits >> d) % 2 == 0) continue;
        String heads = Arrays.toString(new Course(deep(log, d)).head[m]);
        greatest = Math.max(greatest, groups.merge(heads, 1, Integer::sum));
      }
      if (minute == NONE || greatest < least) {
        minute = m;
        least = greatest;
      }
    }
    return minute;
  }

  long chance(int c, int log, int what) {
    if (!in(c, 0, 16) || !in(log, 0, logs() - 1) || !in(what, 0, 1)) return Long.MIN_VALUE + 2;
    long above = 0;
    long below = 1;
    for (int e = 0; e < events.size(); e++) below *= 16;
    for (int bits = 0; bits < 1 << events.size(); bits++) {
      Setting s = setting().copy();
      long weight = 1;
      for (int e = events.size() - 1; e >= 0; e--) {
        if ((bits >> e) % 2 == 1) {
          weight *= c;
        } else {
          weight *= 16 - c;
          s.events.remove(e);
        }
      }
      if (new Course(s).minuteOut(log) != NONE) above += weight;
    }
    long a = above;
    long b = below;
    while (b != 0) {
      long rest = a % b;
      a = b;
      b = rest;
    }
    return what == 0 ? above / a : below / a;
  }

  int seasons(int seed, int n, int what) {
    if (!in(n, 0, 16) || !in(what, 0, 1)) return BAD;
    Setting s = setting().copy();
    Arrays.fill(s.feeders, 0);
    for (int i = 0; i < n; i++) {
      seed = seed * 1103515245 + 12345;
      s.feeders[i] = ((seed >> 16) & 0xffff) % 10;
    }
    Course c = new Course(s);
    if (what == 0) return c.howManyOut();
    int lain = 0;
    for (int log = 0; log < s.logs.size(); log++) lain += c.minutes(log, 1);
    return lain;
  }

  private int find(int number) {
    finding = number;
    return -10 - number;
  }

  int sheet(int s, int form, int n) {
    if (!in(s, 0, 3) || !in(form, 0, 2) || n > 60) return BAD;
    try {
      sheets[s] = form == 0 ? new byte[n] : form == 1 ? new short[n] : new int[n];
    } catch (NegativeArraySizeException e) {
      return find(5);
    }
    return n;
  }

  int lose(int s) {
    if (!in(s, 0, 3)) return BAD;
    if (sheets[s] == null) return find(1);
    int n = java.lang.reflect.Array.getLength(sheets[s]);
    sheets[s] = null;
    return n;
  }

  int lay(int s, int form, int i, int v) {
    if (!in(s, 0, 3) || !in(form, 0, 2)) return BAD;
    try {
      if (form == 0) ((byte[]) sheets[s])[i] = (byte) v;
      if (form == 1) ((short[]) sheets[s])[i] = (short) v;
      if (form == 2) ((int[]) sheets[s])[i] = v;
      return 1;
    } catch (NullPointerException e) {
      return find(1);
    } catch (ArrayIndexOutOfBoundsException e) {
      return find(2);
    } catch (ClassCastException e) {
      return find(3);
    }
  }

  int get(int s, int form, int i) {
    if (!in(s, 0, 3) || !in(form, 0, 2)) return Integer.MIN_VALUE;
    try {
      if (form == 0) return ((byte[]) sheets[s])[i];
      if (form == 1) return ((short[]) sheets[s])[i];
      return ((int[]) sheets[s])[i];
    } catch (NullPointerException e) {
      find(1);
    } catch (ArrayIndexOutOfBoundsException e) {
      find(2);
    } catch (ClassCastException e) {
      find(3);
    }
    return Integer.MIN_VALUE;
  }

  @SuppressWarnings("SuspiciousSystemArraycopy")
  int copy(int s, int i, int t, int j, int n) {
    if (!in(s, 0, 3) || !in(t, 0, 3)) return BAD;
    try {
      System.arraycopy(sheets[s], i, sheets[t], j, n);
      return 1;
    } catch (NullPointerException e) {
      return find(1);
    } catch (ArrayStoreException e) {
      return find(4);
    } catch (IndexOutOfBoundsException e) {
      return find(2);
    }
  }

  int write(int minute, int s) {
    if (!in(minute, 0, 23) || !in(s, 0, 3)) return BAD;
    if (sheets[s] == null) return find(1);
    int n = Math.min(16, java.lang.reflect.Array.getLength(sheets[s]));
    int form = sheets[s] instanceof byte[] ? 0 : sheets[s] instanceof short[] ? 1 : 2;
    for (int i = 0; i < n; i++) lay(s, form, i, course().water[minute][i]);
    return n;
  }

  int count(int what) {
    Course c = course();
    int sum = 0;
    switch (what) {
      case 0: return logs();
      case 1: return texts[0].length() + texts[1].length() + texts[2].length();
      case 2: return events.size();
      case 3: return c.howManyOut();
      case 4: case 5:
        for (int log = 0; log < logs(); log++) sum += c.minutes(log, what - 3);
        return sum;
      case 6: return all(23, 0);
      case 7: return sights.size();
      case 8: return finding;
      default: return BAD;
    }
  }

  long digest() {
    List<Long> row = new ArrayList<>();
    for (int what = 0; what <= 7; what++) row.add((long) count(what));
    for (int t = 0; t <= 2; t++) row.add((long) fault(t));
    for (int m = 0; m <= 23; m++) for (int what = 0; what <= 1; what++) row.add((long) all(m, what));
    for (int s = 0; s <= 15; s++) {
      row.add((long) span(s, 0));
      row.add((long) span(s, 1));
      for (int m : new int[] {7, 18}) for (int what = 0; what <= 1; what++) row.add((long) flume(m, s, what));
      row.add((long) grade(s));
    }
    for (int log = 0; log < logs(); log++) {
      for (int what = 0; what <= 2; what++) row.add((long) log(log, what));
      for (int m : new int[] {0, 6, 13, 23}) for (int what = 0; what <= 1; what++) row.add((long) at(m, log, what));
      for (int what = 0; what <= 2; what++) row.add((long) out(log, what));
      row.add((long) send(log, 0));
      row.add((long) send(log, 1));
      row.add((long) draughts(log));
      row.add((long) ask(log));
      row.add(chance(5, log, 0));
      row.add(chance(5, log, 1));
    }
    for (int x : new int[] {jam(), left(0), left(1), worst(), steep(0), steep(1), fill(0), fill(1)}) row.add((long) x);
    for (int x : new int[] {spare(NONE), spare(0), never(), seasons(7, 11, 0), seasons(7, 11, 1)}) row.add((long) x);
    long h = 17;
    for (long x : row) h = 31 * h + x;
    return h;
  }
}
