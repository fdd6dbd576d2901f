/**
 * A log flume of sixteen spans: what is told of it, and what comes of that, minute by minute.
 * Every row is made in the constructor and used again, so that no call makes an object.
 */
public final class LogFlume {
  public static final int NONE = -1, BAD = -2, NOT = -3, FULL = -4;

  private static final int SPANS = 16, MINUTES = 24, LOGS = 8, EVENTS = 8, SIGHTS = 8;
  private static final int TEXTS = 3, SLOPES = 0, FEEDERS = 1;
  private static final int FIGURES = 16, LOG_BYTES = 31;
  private static final int POLE = 0, SHUT = 1, BURST = 2;
  private static final int MOST_WATER = 20, MOST_SLOPE = 3, MOST_FEED = 9, MOST_DRAUGHT = 9;
  private static final int AGROUND = 1, BLOCKED = 2, OUT = 16;
  private static final int NOBODY = 8;
  private static final int SHEETS = 4, FORMS = 3, ITEMS = 60, BYTES = 0, SHORTS = 1;
  private static final int NULL = 1, INDEX = 2, CAST = 3, STORE = 4, SIZE = 5;
  private static final int UNKNOWN = -1;
  private static final int LEAST_INT = 1 << 31;
  private static final long LEAST_LONG = 1L << 63;
  private static final int[] DIGEST_MINUTES = {0, 6, 13, 23};

  private final Text[] texts = new Text[TEXTS];
  private final int[] faults = new int[TEXTS];
  private final Told told = new Told();
  private final Events events = new Events();
  private final Sights sights = new Sights();
  private final Sheet[] sheets = new Sheet[SHEETS];
  private int latestFinding = 0;

  // What comes of all that is told; only valid while settled.
  private boolean settled = false;
  private final Water water = new Water();
  private final Drive drive = new Drive();

  // What would come of something else; each use writes them anew.
  private final Water otherWater = new Water();
  private final Drive otherDrive = new Drive();
  private final int[] otherFeeders = new int[SPANS];

  // Which LOGS are OUT, by the EVENTS that are, as bits; UNKNOWN until first asked for.
  private final int[] outcomes = new int[1 << EVENTS];

  // The heads of all LOGS behind each MINUTE by each DRAUGHT, for ask().
  private final long[] traces = new long[(MOST_DRAUGHT + 1) * MINUTES];

  private int best = 0;
  private int bestOut = 0;

  public LogFlume() {
    for (int t = 0; t < TEXTS; t++) {
      texts[t] = new Text(t == SLOPES || t == FEEDERS ? FIGURES : LOG_BYTES);
      faults[t] = NONE;
    }
    for (int s = 0; s < SHEETS; s++) {
      sheets[s] = new Sheet();
    }
    told.tellSlopes(texts[SLOPES]);
  }

  // ---- slopes, feeders, logs, events

  public int type(int text, int b) {
    if (!within(text, TEXTS) || !within(b, 256)) {
      return BAD;
    }
    if (!texts[text].append(b)) {
      return FULL;
    }
    tellAgain(text);
    return texts[text].size;
  }

  public int wipe(int text) {
    if (!within(text, TEXTS)) {
      return BAD;
    }
    int had = texts[text].size;
    texts[text].size = 0;
    tellAgain(text);
    return had;
  }

  public int undo(int text) {
    if (!within(text, TEXTS)) {
      return BAD;
    }
    if (texts[text].size == 0) {
      return NOT;
    }
    texts[text].size--;
    tellAgain(text);
    return texts[text].size;
  }

  public int fault(int text) {
    return within(text, TEXTS) ? faults[text] : BAD;
  }

  public int span(int span, int what) {
    if (!within(span, SPANS) || !within(what, 2)) {
      return BAD;
    }
    return what == 0 ? told.slopes[span] : told.feeders[span];
  }

  public int log(int log, int what) {
    if (!isLog(log) || !within(what, 3)) {
      return BAD;
    }
    if (what == 0) {
      return told.starts[log];
    }
    return what == 1 ? told.depths[log] : told.tails[log];
  }

  public int event(int kind, int minute, int number) {
    if (!Events.mayBe(kind, minute, number)) {
      return BAD;
    }
    if (!events.append(kind, minute, number)) {
      return FULL;
    }
    unsettle();
    return events.size;
  }

  public int back() {
    if (events.size == 0) {
      return NOT;
    }
    events.size--;
    unsettle();
    return events.size;
  }

  public int read(int s) {
    if (!within(s, SHEETS)) {
      return BAD;
    }
    Sheet sheet = sheets[s];
    if (sheet.isLost()) {
      return found(NULL);
    }
    int came = 0;
    for (int i = 0; i + 2 < sheet.size; i += 3) {
      int[] items = sheet.items;
      if (!Events.mayBe(items[i], items[i + 1], items[i + 2])
          || !events.append(items[i], items[i + 1], items[i + 2])) {
        break;
      }
      came++;
    }
    unsettle();
    return came;
  }

  // ---- minutes

  public int flume(int minute, int span, int what) {
    if (!within(minute, MINUTES) || !within(span, SPANS) || !within(what, 2)) {
      return BAD;
    }
    settle();
    return what == 0 ? water.levels[minute * SPANS + span] : drive.lierIn(told, minute, span);
  }

  public int at(int minute, int log, int what) {
    if (!within(minute, MINUTES) || !isLog(log) || !within(what, 2)) {
      return BAD;
    }
    settle();
    int place = minute * LOGS + log;
    return what == 0 ? drive.heads[place] : drive.states[place];
  }

  public int all(int minute, int what) {
    if (!within(minute, MINUTES) || !within(what, 2)) {
      return BAD;
    }
    settle();
    return what == 0 ? water.together(minute) : drive.afloatOrLying(told, minute);
  }

  public int out(int log, int what) {
    if (!isLog(log) || !within(what, 3)) {
      return BAD;
    }
    settle();
    if (what == 0) {
      return drive.minuteOut(log);
    }
    return drive.minutesIn(log, what == 1 ? AGROUND : BLOCKED);
  }

  public int jam() {
    settle();
    for (int m = 0; m < MINUTES; m++) {
      for (int log = 0; log < told.logs; log++) {
        if (drive.states[m * LOGS + log] == BLOCKED) {
          return m;
        }
      }
    }
    return NONE;
  }

  public int left(int what) {
    if (!within(what, 2)) {
      return BAD;
    }
    settle();
    return what == 0 ? water.dryBits() : told.logBits() & ~drive.outBits(told);
  }

  public int worst() {
    settle();
    int worst = NONE;
    int most = 0;
    for (int log = 0; log < told.logs; log++) {
      int lain = drive.minutesIn(log, AGROUND);
      if (lain > most) {
        most = lain;
        worst = log;
      }
    }
    return worst;
  }

  // ---- plans

  public int send(int log, int what) {
    if (!isLog(log) || !within(what, 2)) {
      return BAD;
    }
    searchSend(log);
    return what == 0 ? best : bestOut;
  }

  public int steep(int what) {
    if (!within(what, 2)) {
      return BAD;
    }
    searchSteep();
    return what == 0 ? best : bestOut;
  }

  public int fill(int what) {
    if (!within(what, 2)) {
      return BAD;
    }
    searchFill();
    return what == 0 ? best : bestOut;
  }

  public int spare(int i) {
    if (i < NONE || i > 1) {
      return BAD;
    }
    int spared = sparedEvents();
    if (spared == UNKNOWN) {
      return NONE;
    }
    return i == NONE ? Integer.bitCount(spared) : bitAt(spared, i);
  }

  // ---- seen, chance, seasons

  public int seen(int minute, int span, int log) {
    if (!within(minute, MINUTES) || !within(span, SPANS) || !within(log, LOGS + 1)) {
      return BAD;
    }
    if (!sights.append(minute, span, log)) {
      return FULL;
    }
    return sights.size;
  }

  public int forget() {
    int had = sights.size;
    sights.size = 0;
    return had;
  }

  public int never() {
    int bits = 0;
    for (int e = 0; e < events.size; e++) {
      int kept = events.bits() & ~(1 << e);
      otherWater.pour(told.feeders, events, kept);
      otherDrive.run(told, otherWater, events, kept);
      if (sights.fit(told, otherDrive)) {
        bits |= 1 << e;
      }
    }
    return bits;
  }

  public int draughts(int log) {
    if (!isLog(log)) {
      return BAD;
    }
    return traceDraughts(log);
  }

  public int grade(int span) {
    if (!within(span, SPANS)) {
      return BAD;
    }
    settle();
    int own = told.slopes[span];
    int bits = 0;
    for (int slope = 1; slope <= MOST_SLOPE; slope++) {
      told.slopes[span] = slope;
      otherDrive.run(told, water, events, events.bits());
      if (sights.fit(told, otherDrive)) {
        bits |= 1 << slope;
      }
    }
    told.slopes[span] = own;
    return bits;
  }

  public int ask(int log) {
    if (!isLog(log)) {
      return BAD;
    }
    int bits = traceDraughts(log);
    int minute = 0;
    int least = MOST_DRAUGHT + 1;
    for (int m = 0; m < MINUTES; m++) {
      int most = mostAlike(bits, m);
      if (most < least) {
        least = most;
        minute = m;
      }
    }
    return minute;
  }

  public long chance(int c, int log, int what) {
    if (!within(c, 17) || !isLog(log) || !within(what, 2)) {
      return LEAST_LONG - BAD;
    }
    long above = sixteenthsOut(c, log);
    if (above == 0) {
      return what == 0 ? 0 : 1;
    }
    long below = 1L << (4 * events.size);
    // What is below is a power of two, so nothing but twos can be common.
    for (int k = 0; k < 4 * EVENTS && above % 2 == 0 && below % 2 == 0; k++) {
      above /= 2;
      below /= 2;
    }
    return what == 0 ? above : below;
  }

  public int seasons(int seed, int n, int what) {
    if (!within(n, SPANS + 1) || !within(what, 2)) {
      return BAD;
    }
    int lot = seed;
    for (int s = 0; s < SPANS; s++) {
      lot = 1103515245 * lot + 12345;
      otherFeeders[s] = s < n ? (lot >>> 16) % 10 : 0;
    }
    otherWater.pour(otherFeeders, events, events.bits());
    otherDrive.run(told, otherWater, events, events.bits());
    if (what == 0) {
      return Integer.bitCount(otherDrive.outBits(told));
    }
    return otherDrive.minutesOfAll(told, AGROUND);
  }

  // ---- sheets

  public int sheet(int s, int form, int n) {
    if (!within(s, SHEETS) || !within(form, FORMS) || n > ITEMS) {
      return BAD;
    }
    if (n < 0) {
      return found(SIZE);
    }
    sheets[s].renew(form, n);
    return n;
  }

  public int lose(int s) {
    if (!within(s, SHEETS)) {
      return BAD;
    }
    if (sheets[s].isLost()) {
      return found(NULL);
    }
    int had = sheets[s].size;
    sheets[s].size = NONE;
    return had;
  }

  public int lay(int s, int form, int i, int v) {
    if (!within(s, SHEETS) || !within(form, FORMS)) {
      return BAD;
    }
    int finding = sheets[s].findingAt(form, i);
    if (finding != 0) {
      return found(finding);
    }
    sheets[s].put(i, v);
    return 1;
  }

  public int get(int s, int form, int i) {
    if (!within(s, SHEETS) || !within(form, FORMS)) {
      return LEAST_INT;
    }
    int finding = sheets[s].findingAt(form, i);
    if (finding != 0) {
      latestFinding = finding;
      return LEAST_INT;
    }
    return sheets[s].items[i];
  }

  public int copy(int s, int i, int t, int j, int n) {
    if (!within(s, SHEETS) || !within(t, SHEETS)) {
      return BAD;
    }
    Sheet from = sheets[s];
    Sheet to = sheets[t];
    if (from.isLost() || to.isLost()) {
      return found(NULL);
    }
    if (from.form != to.form) {
      return found(STORE);
    }
    if (!from.hasRun(i, n) || !to.hasRun(j, n)) {
      return found(INDEX);
    }
    System.arraycopy(from.items, i, to.items, j, n);
    return 1;
  }

  public int write(int minute, int s) {
    if (!within(minute, MINUTES) || !within(s, SHEETS)) {
      return BAD;
    }
    if (sheets[s].isLost()) {
      return found(NULL);
    }
    settle();
    int came = Math.min(sheets[s].size, SPANS);
    for (int i = 0; i < came; i++) {
      sheets[s].put(i, water.levels[minute * SPANS + i]);
    }
    return came;
  }

  public int count(int what) {
    settle();
    switch (what) {
      case 0: return told.logs;
      case 1: return texts[0].size + texts[1].size + texts[2].size;
      case 2: return events.size;
      case 3: return Integer.bitCount(drive.outBits(told));
      case 4: return drive.minutesOfAll(told, AGROUND);
      case 5: return drive.minutesOfAll(told, BLOCKED);
      case 6: return water.together(MINUTES - 1);
      case 7: return sights.size;
      case 8: return latestFinding;
      default: return BAD;
    }
  }

  public long digest() {
    long h = 17;
    for (int what = 0; what <= 7; what++) {
      h = 31 * h + count(what);
    }
    for (int t = 0; t < TEXTS; t++) {
      h = 31 * h + fault(t);
    }
    for (int m = 0; m < MINUTES; m++) {
      h = 31 * h + all(m, 0);
      h = 31 * h + all(m, 1);
    }
    for (int s = 0; s < SPANS; s++) {
      h = mixSpan(h, s);
    }
    for (int log = 0; log < told.logs; log++) {
      h = mixLogPlans(mixLogMinutes(h, log), log);
    }
    return mixWhole(h);
  }

  // ---- what stands behind the calls

  private static boolean within(int number, int bound) {
    return number >= 0 && number < bound;
  }

  /** The place of the i-th bit that is set, from 0 on; NONE. */
  private static int bitAt(int bits, int i) {
    int ahead = 0;
    for (int place = 0; place < 31; place++) {
      if ((bits >> place & 1) == 1) {
        if (ahead == i) {
          return place;
        }
        ahead++;
      }
    }
    return NONE;
  }

  private boolean isLog(int log) {
    return within(log, told.logs);
  }

  private int found(int finding) {
    latestFinding = finding;
    return -10 - finding;
  }

  private void tellAgain(int text) {
    if (text == SLOPES) {
      faults[text] = told.tellSlopes(texts[text]);
    } else if (text == FEEDERS) {
      faults[text] = told.tellFeeders(texts[text]);
    } else {
      faults[text] = told.tellLogs(texts[text]);
    }
    unsettle();
  }

  private void unsettle() {
    settled = false;
  }

  private void settle() {
    if (settled) {
      return;
    }
    water.pour(told.feeders, events, events.bits());
    drive.run(told, water, events, events.bits());
    for (int kept = 0; kept < outcomes.length; kept++) {
      outcomes[kept] = UNKNOWN;
    }
    settled = true;
  }

  private void startSearch() {
    settle();
    best = NONE;
    bestOut = NONE;
  }

  private void weigh(int candidate) {
    int out = Integer.bitCount(otherDrive.outBits(told));
    if (out > bestOut) {
      bestOut = out;
      best = candidate;
    }
  }

  private void searchSend(int log) {
    startSearch();
    int own = told.starts[log];
    for (int m = 0; m < MINUTES; m++) {
      told.starts[log] = m;
      otherDrive.run(told, water, events, events.bits());
      weigh(m);
    }
    told.starts[log] = own;
  }

  private void searchSteep() {
    startSearch();
    for (int s = 0; s < SPANS; s++) {
      int own = told.slopes[s];
      told.slopes[s] = Math.min(own + 1, MOST_SLOPE);
      otherDrive.run(told, water, events, events.bits());
      told.slopes[s] = own;
      weigh(s);
    }
  }

  private void searchFill() {
    startSearch();
    for (int s = 0; s < SPANS; s++) {
      int own = told.feeders[s];
      told.feeders[s] = Math.min(own + 2, MOST_FEED);
      otherWater.pour(told.feeders, events, events.bits());
      told.feeders[s] = own;
      otherDrive.run(told, otherWater, events, events.bits());
      weigh(s);
    }
  }

  /** The EVENTS that had better not be, as bits, or UNKNOWN. */
  private int sparedEvents() {
    settle();
    int every = events.bits();
    int whole = told.logBits();
    if (outcome(every) == whole) {
      return 0;
    }
    for (int a = 0; a < events.size; a++) {
      if (outcome(every & ~(1 << a)) == whole) {
        return 1 << a;
      }
    }
    for (int a = 0; a < events.size; a++) {
      for (int b = a + 1; b < events.size; b++) {
        int spared = 1 << a | 1 << b;
        if (outcome(every & ~spared) == whole) {
          return spared;
        }
      }
    }
    return UNKNOWN;
  }

  /** Which LOGS are OUT, as bits, if of the EVENTS only those of the bits kept are. */
  private int outcome(int kept) {
    if (!within(kept, outcomes.length)) {
      return UNKNOWN;
    }
    if (outcomes[kept] == UNKNOWN) {
      otherWater.pour(told.feeders, events, kept);
      otherDrive.run(told, otherWater, events, kept);
      outcomes[kept] = otherDrive.outBits(told);
    }
    return outcomes[kept];
  }

  /** How many of 16 to the power of the EVENTS are the chance that a LOG is OUT. */
  private long sixteenthsOut(int c, int log) {
    settle();
    long above = 0;
    int every = events.bits();
    for (int kept = 0; kept <= every; kept++) {
      long weight = 1;
      for (int e = 0; e < events.size; e++) {
        weight *= (kept >> e & 1) == 1 ? c : 16 - c;
      }
      if (weight != 0 && (outcome(kept) >> log & 1) == 1) {
        above += weight;
      }
    }
    return above;
  }

  /** DRAUGHTS of a LOG, as bits; behind it the traces are those of these. */
  private int traceDraughts(int log) {
    settle();
    int own = told.depths[log];
    int bits = 0;
    for (int depth = 1; depth <= MOST_DRAUGHT; depth++) {
      told.depths[log] = depth;
      otherDrive.run(told, water, events, events.bits());
      if (sights.fit(told, otherDrive)) {
        bits |= 1 << depth;
        otherDrive.trace(told, traces, depth * MINUTES);
      }
    }
    told.depths[log] = own;
    return bits;
  }

  /** How many of the DRAUGHTS have like heads behind a MINUTE, at most. */
  private int mostAlike(int bits, int minute) {
    int most = 0;
    for (int a = 1; a <= MOST_DRAUGHT; a++) {
      int alike = 0;
      for (int b = 1; b <= MOST_DRAUGHT; b++) {
        boolean both = (bits >> a & 1) == 1 && (bits >> b & 1) == 1;
        if (both && traces[a * MINUTES + minute] == traces[b * MINUTES + minute]) {
          alike++;
        }
      }
      most = Math.max(most, alike);
    }
    return most;
  }

  private long mixSpan(long before, int s) {
    long h = before;
    h = 31 * h + span(s, 0);
    h = 31 * h + span(s, 1);
    h = 31 * h + flume(7, s, 0);
    h = 31 * h + flume(7, s, 1);
    h = 31 * h + flume(18, s, 0);
    h = 31 * h + flume(18, s, 1);
    return 31 * h + grade(s);
  }

  private long mixLogMinutes(long before, int log) {
    long h = before;
    for (int what = 0; what <= 2; what++) {
      h = 31 * h + log(log, what);
    }
    for (int minute : DIGEST_MINUTES) {
      h = 31 * h + at(minute, log, 0);
      h = 31 * h + at(minute, log, 1);
    }
    for (int what = 0; what <= 2; what++) {
      h = 31 * h + out(log, what);
    }
    return h;
  }

  private long mixLogPlans(long before, int log) {
    long h = before;
    h = 31 * h + send(log, 0);
    h = 31 * h + send(log, 1);
    h = 31 * h + draughts(log);
    h = 31 * h + ask(log);
    h = 31 * h + chance(5, log, 0);
    return 31 * h + chance(5, log, 1);
  }

  private long mixWhole(long before) {
    long h = before;
    h = 31 * h + jam();
    h = 31 * h + left(0);
    h = 31 * h + left(1);
    h = 31 * h + worst();
    h = 31 * h + steep(0);
    h = 31 * h + steep(1);
    h = 31 * h + fill(0);
    h = 31 * h + fill(1);
    h = 31 * h + spare(NONE);
    h = 31 * h + spare(0);
    h = 31 * h + never();
    h = 31 * h + seasons(7, 11, 0);
    return 31 * h + seasons(7, 11, 1);
  }

  /** A text as it was typed. */
  private static final class Text {
    final int[] bytes;
    int size = 0;

    Text(int most) {
      bytes = new int[Math.max(most, 0)];
    }

    boolean append(int b) {
      if (size < 0 || size >= bytes.length) {
        return false;
      }
      bytes[size] = b;
      size++;
      return true;
    }
  }

  /** What the texts say; a text with a FAULT says what an empty one says. */
  private static final class Told {
    final int[] slopes = new int[SPANS];
    final int[] feeders = new int[SPANS];
    final int[] starts = new int[LOGS];
    final int[] depths = new int[LOGS];
    // How many SPANS a LOG lies in above that of its head: 1 of a long one.
    final int[] tails = new int[LOGS];
    int logs = 0;

    int tellSlopes(Text text) {
      return tellFigures(text, '1', '3', slopes, 1);
    }

    int tellFeeders(Text text) {
      return tellFigures(text, '0', '9', feeders, 0);
    }

    private int tellFigures(Text text, int low, int high, int[] row, int rest) {
      int fault = NONE;
      for (int i = 0; i < text.size && i < text.bytes.length && fault == NONE; i++) {
        if (text.bytes[i] < low || text.bytes[i] > high) {
          fault = i;
        }
      }
      for (int s = 0; s < row.length; s++) {
        boolean isTold = fault == NONE && s < text.size && s < text.bytes.length;
        row[s] = isTold ? text.bytes[s] - '0' : rest;
      }
      return fault;
    }

    int tellLogs(Text text) {
      logs = 0;
      int fault = faultOfLogs(text);
      if (fault != NONE) {
        return fault;
      }
      for (int i = 0; i + 2 < text.size && i + 2 < text.bytes.length && logs < LOGS; i += 4) {
        starts[logs] = text.bytes[i] - 'a';
        depths[logs] = text.bytes[i + 1] - '0';
        tails[logs] = text.bytes[i + 2] == 'l' ? 1 : 0;
        logs++;
      }
      return NONE;
    }

    /** Each LOG has three bytes, and a fourth goes between it and the next one. */
    private static int faultOfLogs(Text text) {
      for (int i = 0; i < text.size && i < text.bytes.length; i++) {
        if (i / 4 >= LOGS || !mayStand(i % 4, text.bytes[i])) {
          return i;
        }
      }
      return text.size == 0 || text.size % 4 == 3 ? NONE : text.size;
    }

    private static boolean mayStand(int place, int b) {
      switch (place) {
        case 0: return b >= 'a' && b <= 'x';
        case 1: return b >= '1' && b <= '9';
        case 2: return b == 's' || b == 'l';
        default: return b == ';';
      }
    }

    int logBits() {
      return (1 << logs) - 1;
    }
  }

  private static final class Events {
    final int[] kinds = new int[EVENTS];
    final int[] minutes = new int[EVENTS];
    final int[] numbers = new int[EVENTS];
    int size = 0;

    static boolean mayBe(int kind, int minute, int number) {
      return within(kind, BURST + 1) && within(minute, MINUTES) && within(number, 16);
    }

    boolean append(int kind, int minute, int number) {
      if (!within(size, EVENTS)) {
        return false;
      }
      kinds[size] = kind;
      minutes[size] = minute;
      numbers[size] = number;
      size++;
      return true;
    }

    int bits() {
      return (1 << size) - 1;
    }

    /** Of each MINUTE the numbers, as bits, of the EVENTS of a kind that are kept. */
    void mark(int kind, int kept, int[] rows) {
      for (int m = 0; m < rows.length; m++) {
        rows[m] = 0;
      }
      for (int e = 0; e < size && e < EVENTS; e++) {
        int m = minutes[e];
        if (kinds[e] == kind && (kept >> e & 1) == 1 && m >= 0 && m < rows.length) {
          rows[m] |= 1 << numbers[e];
        }
      }
    }
  }

  /** How much WATER is in each SPAN behind each MINUTE. */
  private static final class Water {
    final int[] levels = new int[MINUTES * SPANS];
    private final int[] shut = new int[MINUTES];
    private final int[] burst = new int[MINUTES];

    void pour(int[] feeders, Events events, int kept) {
      events.mark(SHUT, kept, shut);
      events.mark(BURST, kept, burst);
      for (int m = 0; m < MINUTES; m++) {
        for (int s = 0; s < SPANS && s < feeders.length; s++) {
          int level = m > 0 && s > 0 ? levels[(m - 1) * SPANS + s - 1] : 0;
          if (level > 0) {
            level--;
          }
          if ((shut[m] >> s & 1) == 0) {
            level = Math.min(level + feeders[s], MOST_WATER);
          }
          levels[m * SPANS + s] = (burst[m] >> s & 1) == 0 ? level : 0;
        }
      }
    }

    int together(int minute) {
      int sum = 0;
      for (int s = 0; s < SPANS; s++) {
        sum += levels[minute * SPANS + s];
      }
      return sum;
    }

    int dryBits() {
      int dry = (1 << SPANS) - 1;
      for (int m = 0; m < MINUTES; m++) {
        for (int s = 0; s < SPANS; s++) {
          if (levels[m * SPANS + s] > 0) {
            dry &= ~(1 << s);
          }
        }
      }
      return dry;
    }
  }

  /**
   * Where each LOG is behind each MINUTE, and whether it is AGROUND or BLOCKED in it.
   * No LOG comes past another, so those in the flume stand in a line, in the order in which
   * they were put in: that is the order in which they go on, and the only one that can lie in
   * the next SPAN is the one ahead in the line.
   */
  private static final class Drive {
    final int[] heads = new int[MINUTES * LOGS];
    final int[] states = new int[MINUTES * LOGS];
    private final int[] poles = new int[MINUTES];
    private final int[] line = new int[LOGS];
    private int lineSize = 0;
    private int waiting = 0;

    void run(Told told, Water water, Events events, int kept) {
      events.mark(POLE, kept, poles);
      lineSize = 0;
      waiting = told.logBits();
      for (int m = 0; m < MINUTES; m++) {
        beginMinute(told, m);
        int bar = OUT + 1;
        for (int i = 0; i < lineSize; i++) {
          int log = line[i];
          if (within(heads[m * LOGS + log], SPANS)) {
            int head = move(told, water, m, log, bar);
            bar = head == OUT ? bar : Math.max(head - told.tails[log], 0);
          }
        }
        if (bar > 0) {
          putIn(told, m);
        }
      }
    }

    private void beginMinute(Told told, int m) {
      for (int log = 0; log < told.logs; log++) {
        heads[m * LOGS + log] = m > 0 ? heads[(m - 1) * LOGS + log] : NONE;
        states[m * LOGS + log] = 0;
      }
    }

    /** Moves one LOG, into no SPAN from bar on, and tells where its head then is. */
    private int move(Told told, Water water, int m, int log, int bar) {
      int place = m * LOGS + log;
      int head = heads[place];
      boolean poled = (poles[m] >> log & 1) == 1;
      int steps = told.slopes[head] + (poled ? 1 : 0);
      for (int k = 0; k < steps && head < SPANS; k++) {
        if (!poled && water.levels[m * SPANS + head] < told.depths[log]) {
          states[place] = AGROUND;
          break;
        }
        if (head + 1 >= bar) {
          states[place] = BLOCKED;
          break;
        }
        head++;
      }
      heads[place] = head;
      return head;
    }

    /** Only the first that WAITS can be put in: then it lies in SPAN 0 ahead of the others. */
    private void putIn(Told told, int m) {
      for (int log = 0; log < told.logs; log++) {
        if ((waiting >> log & 1) == 1 && told.starts[log] <= m && lineSize < LOGS) {
          waiting &= ~(1 << log);
          line[lineSize] = log;
          lineSize++;
          heads[m * LOGS + log] = 0;
          return;
        }
      }
    }

    int lierIn(Told told, int minute, int span) {
      for (int log = 0; log < told.logs; log++) {
        int head = heads[minute * LOGS + log];
        if (head != OUT && head >= span && head - told.tails[log] <= span) {
          return log;
        }
      }
      return NONE;
    }

    int afloatOrLying(Told told, int minute) {
      int in = 0;
      for (int log = 0; log < told.logs; log++) {
        int head = heads[minute * LOGS + log];
        if (head != NONE && head != OUT) {
          in++;
        }
      }
      return in;
    }

    int minuteOut(int log) {
      for (int m = 0; m < MINUTES; m++) {
        if (heads[m * LOGS + log] == OUT) {
          return m;
        }
      }
      return NONE;
    }

    int minutesIn(int log, int state) {
      int minutes = 0;
      for (int m = 0; m < MINUTES; m++) {
        if (states[m * LOGS + log] == state) {
          minutes++;
        }
      }
      return minutes;
    }

    int minutesOfAll(Told told, int state) {
      int minutes = 0;
      for (int log = 0; log < told.logs; log++) {
        minutes += minutesIn(log, state);
      }
      return minutes;
    }

    /** The LOGS that are OUT by the last MINUTE, as bits. */
    int outBits(Told told) {
      int bits = 0;
      for (int log = 0; log < told.logs; log++) {
        if (heads[(MINUTES - 1) * LOGS + log] == OUT) {
          bits |= 1 << log;
        }
      }
      return bits;
    }

    /** All heads behind each MINUTE as one number, five bits for each LOG. */
    void trace(Told told, long[] traces, int from) {
      for (int m = 0; m < MINUTES && within(from + m, traces.length); m++) {
        long heap = 0;
        for (int log = 0; log < told.logs; log++) {
          heap = heap << 5 | (heads[m * LOGS + log] + 1);
        }
        traces[from + m] = heap;
      }
    }
  }

  /** What was SEEN. */
  private static final class Sights {
    private final int[] minutes = new int[SIGHTS];
    private final int[] spans = new int[SIGHTS];
    private final int[] liers = new int[SIGHTS];
    int size = 0;

    boolean append(int minute, int span, int log) {
      if (!within(size, SIGHTS)) {
        return false;
      }
      minutes[size] = minute;
      spans[size] = span;
      liers[size] = log == NOBODY ? NONE : log;
      size++;
      return true;
    }

    boolean fit(Told told, Drive drive) {
      for (int i = 0; i < size && i < SIGHTS; i++) {
        if (drive.lierIn(told, minutes[i], spans[i]) != liers[i]) {
          return false;
        }
      }
      return true;
    }
  }

  /** A SHEET; while it is LOST it has NONE for its size. */
  private static final class Sheet {
    final int[] items = new int[ITEMS];
    int form = BYTES;
    int size = NONE;

    boolean isLost() {
      return size == NONE;
    }

    void renew(int newForm, int newSize) {
      form = newForm;
      size = newSize;
      for (int i = 0; i < ITEMS; i++) {
        items[i] = 0;
      }
    }

    /** The number of the FINDING of an item that is to be of a FORM, 0 if there is none. */
    int findingAt(int asForm, int i) {
      if (isLost()) {
        return NULL;
      }
      if (form != asForm) {
        return CAST;
      }
      return within(i, size) ? 0 : INDEX;
    }

    boolean hasRun(int from, int n) {
      return from >= 0 && n >= 0 && (long) from + n <= size;
    }

    void put(int i, int v) {
      if (!within(i, ITEMS)) {
        return;
      }
      if (form == BYTES) {
        items[i] = (byte) v;
      } else {
        items[i] = form == SHORTS ? (short) v : v;
      }
    }
  }
}
