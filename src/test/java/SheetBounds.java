/** Bounds of SHEETS and FINDINGS, and promises 30 to 35. */
final class SheetBounds {
  private static final int BAD = LogFlume.BAD;
  private static final int LEAST = Integer.MIN_VALUE, MOST = Integer.MAX_VALUE;
  private static final int NULL = -11, INDEX = -12, CAST = -13, STORE = -14, SIZE = -15;
  private static final int[] NO_SHEET = {LEAST, -1, 4, MOST};
  private static final int[] NO_FORM = {LEAST, -1, 3, MOST};

  private SheetBounds() {}

  static void all() {
    lostOrARow();
    formsHold();
    noughtToSixty();
    findings();
    makingAnew();
    makingRefused();
    losing();
    losingRefused();
    laying();
    layingRefused();
    getting();
    gettingRefused();
    copying();
    copyingWithinOne();
    copyingRefused();
    copyingBesideTheEnds();
    writing();
    writingRefused();
  }

  private static LogFlume rows(int form, int... items) {
    LogFlume x = new LogFlume();
    Due.is("sheet", x.sheet(0, form, items.length), items.length);
    for (int i = 0; i < items.length; i++) {
      Due.is("lay", x.lay(0, form, i, items[i]), 1);
    }
    return x;
  }

  private static void items(LogFlume x, int s, int form, int... want) {
    for (int i = 0; i < want.length; i++) {
      Due.is("item " + i + " of " + s, x.get(s, form, i), want[i]);
    }
  }

  private static void lostOrARow() {
    Says.terms("SHEETS 0 .. 3 are LOST (at first) or a row of a FORM:");
    LogFlume x = new LogFlume();
    for (int s = 0; s < 4; s++) {
      Due.is("LOST at first", x.lose(s), NULL);
      Due.is("a row", x.sheet(s, s % 3, s), s);
    }
    for (int s = 0; s < 4; s++) {
      Due.is("each has its own items", x.lose(s), s);
      Due.is("LOST", x.lose(s), NULL);
    }
  }

  private static void formsHold() {
    Says.terms("0 bytes, 1 shorts, 2 ints,");
    int[][] held = {
      {127, 127, 127, 127}, {128, -128, 128, 128}, {-128, -128, -128, -128}, {-129, 127, -129, -129}, {255, -1, 255, 255}, {256, 0, 256, 256},
      {32767, -1, 32767, 32767}, {32768, 0, -32768, 32768}, {-32768, 0, -32768, -32768}, {-32769, -1, 32767, -32769},
      {65535, -1, -1, 65535}, {65536, 0, 0, 65536}, {MOST, -1, -1, MOST}, {LEAST, 0, 0, LEAST}, {0, 0, 0, 0}, {-1, -1, -1, -1},
    };
    for (int form = 0; form < 3; form++) {
      for (int[] row : held) {
        items(rows(form, row[0]), 0, form, row[form + 1]);
      }
    }
  }

  private static void noughtToSixty() {
    Says.terms("of 0 to 60 items (0 at first).");
    for (int form = 0; form < 3; form++) {
      LogFlume x = new LogFlume();
      Due.is("none", x.sheet(0, form, 0), 0);
      Due.is("no item in it", x.lay(0, form, 0, 1), INDEX);
      Due.is("one", x.sheet(1, form, 1), 1);
      Due.is("an item in it", x.get(1, form, 0), 0);
      Due.is("no second", x.lay(1, form, 1, 1), INDEX);
      Due.is("sixty", x.sheet(2, form, 60), 60);
      Due.is("sixty-one", x.sheet(2, form, 61), BAD);
      for (int i = 0; i < 60; i++) {
        Due.is("0 at first", x.get(2, form, i), 0);
        Due.is("lay", x.lay(2, form, i, i), 1);
      }
      Due.is("the last", x.get(2, form, 59), 59);
      Due.is("behind the last", x.lay(2, form, 60, 1), INDEX);
    }
  }

  private static void findings() {
    Says.terms("FINDINGS (answers -10 less the number; they change nothing but count() 8): 1 NULL: the SHEET is LOST; "
        + "2 INDEX: there is no such item; 3 CAST: it has another FORM; 4 STORE: unlike FORMS; 5 SIZE: below 0.");
    LogFlume x = rows(0, 7);
    x.sheet(1, 1, 1);
    Due.is("before any", x.count(8), 0);
    int[][] done = {
      {x.lose(3), x.count(8), NULL, 1}, {x.lay(0, 0, 1, 0), x.count(8), INDEX, 2}, {x.lay(0, 1, 0, 0), x.count(8), CAST, 3},
      {x.copy(0, 0, 1, 0, 1), x.count(8), STORE, 4}, {x.sheet(0, 0, -1), x.count(8), SIZE, 5},
    };
    for (int[] row : done) {
      Due.is("the answer", row[0], row[2]);
      Due.is("count(8)", row[1], row[3]);
    }
    Due.is("what goes well leaves it", x.lay(0, 0, 0, 7), 1);
    Due.is("count(8)", x.count(8), 5);
    Due.is("what is BAD leaves it", x.lose(4), BAD);
    Due.is("count(8)", x.count(8), 5);
  }

  private static void makingAnew() {
    Says.promise(30, "A SHEET is a new row of a FORM with n items: n.");
    LogFlume x = rows(2, 5, 6, 7);
    Due.is("anew, of one more", x.sheet(0, 2, 4), 4);
    items(x, 0, 2, 0, 0, 0, 0);
    x.lay(0, 2, 3, 9);
    Due.is("of fewer", x.sheet(0, 2, 3), 3);
    Due.is("of more again", x.sheet(0, 2, 4), 4);
    items(x, 0, 2, 0, 0, 0, 0);
    Due.is("of another FORM", x.sheet(0, 1, 4), 4);
    Due.is("as the old FORM", x.lay(0, 2, 0, 0), CAST);
    Due.is("the last SHEET", x.sheet(3, 0, 60), 60);
  }

  private static void makingRefused() {
    Says.promise(30, "BAD: SHEET, FORM, above 60; SIZE.");
    LogFlume x = rows(1, 5, 6);
    for (int s : NO_SHEET) Due.is("SHEET " + s, x.sheet(s, 0, 0), BAD);
    for (int form : NO_FORM) Due.is("FORM " + form, x.sheet(0, form, 0), BAD);
    for (int n : new int[] {61, 62, MOST}) Due.is("items " + n, x.sheet(0, 0, n), BAD);
    for (int s : NO_SHEET) Due.is("BAD ahead of SIZE", x.sheet(s, 0, -1), BAD);
    for (int form : NO_FORM) Due.is("BAD ahead of SIZE", x.sheet(0, form, -1), BAD);
    Due.is("no FINDING", x.count(8), 0);
    for (int n : new int[] {-1, -60, LEAST}) Due.is("items " + n, x.sheet(0, 0, n), SIZE);
    Due.is("count(8)", x.count(8), 5);
    items(x, 0, 1, 5, 6);
    Due.is("a LOST one", x.sheet(3, 0, -1), SIZE);
    Due.is("stays LOST", x.lose(3), NULL);
  }

  private static void losing() {
    Says.promise(31, "It is LOST: how many items it had.");
    LogFlume x = new LogFlume();
    for (int n : new int[] {0, 1, 59, 60}) {
      x.sheet(3, 2, n);
      Due.is("lose(3)", x.lose(3), n);
      Due.is("lose(3)", x.lose(3), NULL);
    }
    x.sheet(3, 2, 2);
    items(x, 3, 2, 0, 0);
  }

  private static void losingRefused() {
    Says.promise(31, "BAD; NULL.");
    LogFlume x = new LogFlume();
    for (int s : NO_SHEET) Due.is("lose(" + s + ")", x.lose(s), BAD);
    Due.is("no FINDING", x.count(8), 0);
    for (int s = 0; s < 4; s++) Due.is("lose(" + s + ")", x.lose(s), NULL);
    Due.is("count(8)", x.count(8), 1);
  }

  private static void laying() {
    Says.promise(32, "Item i, treated as of a FORM, becomes v (the lowest bits that it has): 1.");
    LogFlume x = rows(0, 1, 2, 3);
    Due.is("the first", x.lay(0, 0, 0, 0x1280), 1);
    Due.is("the last", x.lay(0, 0, 2, 0x127f), 1);
    items(x, 0, 0, -128, 2, 127);
    LogFlume y = rows(1, 1, 2, 3);
    Due.is("the first", y.lay(0, 1, 0, 0x128000), 1);
    Due.is("the last", y.lay(0, 1, 2, 0x127fff), 1);
    items(y, 0, 1, -32768, 2, 32767);
    LogFlume z = rows(2, 1, 2, 3);
    Due.is("the first", z.lay(0, 2, 0, LEAST), 1);
    Due.is("the last", z.lay(0, 2, 2, MOST), 1);
    items(z, 0, 2, LEAST, 2, MOST);
    Due.is("the least int is an item too", z.count(8), 0);
  }

  private static void layingRefused() {
    Says.promise(32, "BAD; NULL; CAST; INDEX.");
    LogFlume x = rows(1, 5, 6);
    for (int s : NO_SHEET) Due.is("SHEET " + s, x.lay(s, 1, 0, 9), BAD);
    for (int form : NO_FORM) Due.is("FORM " + form, x.lay(0, form, 0, 9), BAD);
    for (int form : NO_FORM) Due.is("BAD ahead of NULL", x.lay(1, form, 0, 9), BAD);
    for (int form : NO_FORM) Due.is("BAD ahead of INDEX", x.lay(0, form, 2, 9), BAD);
    Due.is("no FINDING", x.count(8), 0);
    Due.is("NULL", x.lay(1, 1, 0, 9), NULL);
    Due.is("NULL ahead of INDEX", x.lay(1, 1, -1, 9), NULL);
    Due.is("CAST", x.lay(0, 0, 0, 9), CAST);
    Due.is("CAST", x.lay(0, 2, 0, 9), CAST);
    Due.is("CAST ahead of INDEX", x.lay(0, 0, -1, 9), CAST);
    Due.is("CAST ahead of INDEX", x.lay(0, 2, 2, 9), CAST);
    for (int i : new int[] {LEAST, -1, 2, 60, MOST}) Due.is("item " + i, x.lay(0, 1, i, 9), INDEX);
    items(x, 0, 1, 5, 6);
    x.lose(0);
    Due.is("LOST, of whatever FORM it was", x.lay(0, 2, 5, 9), NULL);
  }

  private static void getting() {
    Says.promise(33, "Item i of it.");
    LogFlume x = rows(2, 5, LEAST, 7);
    items(x, 0, 2, 5, LEAST, 7);
    Due.is("no FINDING by that", x.count(8), 0);
  }

  private static void got(LogFlume x, int s, int form, int i, int finding) {
    Due.is("get(" + s + ", " + form + ", " + i + ")", x.get(s, form, i), LEAST);
    Due.is("count(8)", x.count(8), finding);
  }

  private static void gettingRefused() {
    Says.promise(33, "BAD: the least int; so are NULL, CAST, INDEX (count() 8 tells).");
    LogFlume x = rows(1, 5, 6);
    for (int s : NO_SHEET) got(x, s, 1, 0, 0);
    for (int form : NO_FORM) got(x, 0, form, 0, 0);
    for (int form : NO_FORM) got(x, 1, form, 0, 0);
    got(x, 1, 1, -1, 1);
    got(x, 0, 0, 2, 3);
    got(x, 1, 0, 0, 1);
    got(x, 0, 2, -1, 3);
    got(x, 0, 1, -1, 2);
    got(x, 3, 2, 0, 1);
    got(x, 0, 1, 2, 2);
    got(x, 0, 2, 0, 3);
    got(x, 0, 1, LEAST, 2);
    got(x, 0, 1, MOST, 2);
    got(x, 4, 0, 0, 2);
  }

  /** Two SHEETS of a FORM, of six and of four items, and two of other FORMS. */
  private static LogFlume pair(int form) {
    LogFlume x = rows(form, 10, 11, 12, 13, 14, 15);
    x.sheet(1, form, 4);
    x.sheet(2, (form + 1) % 3, 6);
    return x;
  }

  private static void copying() {
    Says.promise(34, "n items of SHEET s, from i on, come to SHEET t");
    for (int form = 0; form < 3; form++) {
      LogFlume x = pair(form);
      Due.is("as many as fit", x.copy(0, 2, 1, 0, 4), 1);
      items(x, 1, form, 12, 13, 14, 15);
      items(x, 0, form, 10, 11, 12, 13, 14, 15);
      Due.is("the first to the last", x.copy(0, 0, 1, 3, 1), 1);
      items(x, 1, form, 12, 13, 14, 10);
      Due.is("none", x.copy(0, 0, 1, 0, 0), 1);
      Due.is("none, from the ends on", x.copy(0, 6, 1, 4, 0), 1);
      items(x, 1, form, 12, 13, 14, 10);
      x.sheet(3, form, 0);
      Due.is("none of none", x.copy(3, 0, 3, 0, 0), 1);
      Due.is("no FINDING", x.count(8), 0);
    }
    LogFlume y = new LogFlume();
    y.sheet(0, 2, 60);
    y.sheet(3, 2, 60);
    y.lay(0, 2, 59, LEAST);
    Due.is("sixty", y.copy(0, 0, 3, 0, 60), 1);
    Due.is("the sixtieth", y.get(3, 2, 59), LEAST);
  }

  private static void copyingWithinOne() {
    Says.promise(34, "(perhaps s, as they were), from j on: 1.");
    LogFlume x = pair(1);
    Due.is("down", x.copy(0, 0, 0, 1, 5), 1);
    items(x, 0, 1, 10, 10, 11, 12, 13, 14);
    LogFlume y = pair(2);
    Due.is("up", y.copy(0, 1, 0, 0, 5), 1);
    items(y, 0, 2, 11, 12, 13, 14, 15, 15);
    Due.is("all onto itself", y.copy(0, 0, 0, 0, 6), 1);
    items(y, 0, 2, 11, 12, 13, 14, 15, 15);
  }

  private static void copyingRefused() {
    Says.promise(34, "BAD: the SHEETS; NULL: s, t; STORE; INDEX:");
    LogFlume x = pair(1);
    for (int s : NO_SHEET) {
      Due.is("from SHEET " + s, x.copy(s, 0, 0, 0, 1), BAD);
      Due.is("to SHEET " + s, x.copy(0, 0, s, 0, 1), BAD);
      Due.is("BAD ahead of NULL", x.copy(s, 0, 3, 0, 1), BAD);
      Due.is("BAD ahead of NULL", x.copy(3, 0, s, 0, 1), BAD);
    }
    Due.is("no FINDING", x.count(8), 0);
    Due.is("from a LOST one", x.copy(3, 0, 1, 0, 1), NULL);
    Due.is("to a LOST one", x.copy(1, 0, 3, 0, 1), NULL);
    Due.is("both LOST", x.copy(3, 0, 3, 0, 0), NULL);
    Due.is("NULL ahead of STORE", x.copy(3, 0, 2, 0, 1), NULL);
    Due.is("NULL ahead of INDEX", x.copy(3, -1, 1, 0, 1), NULL);
    Due.is("NULL ahead of INDEX", x.copy(1, 0, 3, 0, -1), NULL);
    Due.is("count(8)", x.count(8), 1);
    Due.is("STORE", x.copy(0, 0, 2, 0, 1), STORE);
    Due.is("STORE the other way", x.copy(2, 0, 0, 0, 1), STORE);
    Due.is("STORE, if none is to come", x.copy(0, 0, 2, 0, 0), STORE);
    Due.is("STORE ahead of INDEX", x.copy(0, -1, 2, 99, -1), STORE);
    Due.is("count(8)", x.count(8), 4);
    items(x, 2, 2, 0, 0, 0, 0, 0, 0);
  }

  private static void copyingBesideTheEnds() {
    Says.promise(34, "INDEX: below 0, not so many.");
    int[][] beside = {
      {-1, 0, 1}, {0, -1, 1}, {0, 0, -1}, {-1, 0, 0}, {0, -1, 0}, {LEAST, 0, 1}, {0, LEAST, 1}, {0, 0, LEAST}, {3, 0, 4}, {6, 0, 1}, {7, 0, 0},
      {0, 1, 4}, {0, 4, 1}, {0, 5, 0}, {0, 0, 5}, {0, 0, 7}, {MOST, 0, 1}, {0, MOST, 1}, {1, 0, MOST}, {0, 1, MOST}, {MOST, MOST, MOST}, {-1, 0, MOST},
    };
    LogFlume x = pair(1);
    for (int[] b : beside) {
      Due.is("copy(0, " + b[0] + ", 1, " + b[1] + ", " + b[2] + ")", x.copy(0, b[0], 1, b[1], b[2]), INDEX);
    }
    Due.is("count(8)", x.count(8), 2);
    items(x, 1, 1, 0, 0, 0, 0);
    Due.is("within one", x.copy(0, 0, 0, 1, 6), INDEX);
    items(x, 0, 1, 10, 11, 12, 13, 14, 15);
  }

  private static void writing() {
    Says.promise(35, "WATER in SPANS 0 on behind a MINUTE comes to a SHEET from item 0 on, as many as there are items, 16 at most: how many.");
    for (int form = 0; form < 3; form++) {
      LogFlume x = Due.told("", "9900000000000007", "");
      int[] want = {9, 17, 16, 15, 14, 13, 12, 11, 10, 9, 8, 7, 6, 5, 4, 10};
      for (int n : new int[] {0, 1, 2, 15, 16, 17, 60}) {
        x.sheet(0, form, n);
        for (int i = 0; i < n; i++) {
          x.lay(0, form, i, 99);
        }
        Due.is("write to " + n, x.write(23, 0), Math.min(n, 16));
        for (int i = 0; i < n; i++) {
          Due.is("item " + i, x.get(0, form, i), i < 16 ? want[i] : 99);
        }
      }
      Due.is("behind the first MINUTE", x.write(0, 0), 16);
      items(x, 0, form, 9, 9, 0, 0, 0, 0, 0, 0, 0, 0, 0, 0, 0, 0, 0, 7, 99);
    }
  }

  private static void writingRefused() {
    Says.promise(35, "BAD; NULL.");
    LogFlume x = rows(0, 5);
    for (int m : new int[] {LEAST, -1, 24, MOST}) {
      Due.is("MINUTE " + m, x.write(m, 0), BAD);
      Due.is("BAD ahead of NULL", x.write(m, 3), BAD);
    }
    for (int s : NO_SHEET) Due.is("SHEET " + s, x.write(0, s), BAD);
    Due.is("no FINDING", x.count(8), 0);
    Due.is("LOST", x.write(0, 3), NULL);
    Due.is("LOST", x.write(23, 3), NULL);
    Due.is("count(8)", x.count(8), 1);
    items(x, 0, 0, 5);
  }
}
