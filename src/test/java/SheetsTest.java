/** Promises 30 to 35: sheet, lose, lay, get, copy, write. */
public final class SheetsTest {
  private static final int LEAST = Integer.MIN_VALUE;
  private static final int NULL = -11, INDEX = -12, CAST = -13, STORE = -14, SIZE = -15;

  public static void main(String[] args) {
    making();
    losing();
    laying();
    getting();
    copying();
    writing();
    Due.end();
  }

  private static void making() {
    LogFlume x = new LogFlume();
    int[][] bad = {{-1, 0, 0}, {4, 0, 0}, {0, -1, 0}, {0, 3, 0}, {0, 0, 61}, {0, 0, Integer.MAX_VALUE}, {4, 0, -1}, {0, 3, -1}};
    for (int[] b : bad) {
      Due.is("sheet " + b[0] + " " + b[1] + " " + b[2], x.sheet(b[0], b[1], b[2]), LogFlume.BAD);
    }
    Due.is("no finding", x.count(8), 0);
    Due.is("below 0", x.sheet(0, 0, -1), SIZE);
    Due.is("count(8)", x.count(8), 5);
    Due.is("far below 0", x.sheet(0, 0, LEAST), SIZE);
    Due.is("still lost", x.lose(0), NULL);
    for (int form = 0; form < 3; form++) {
      Due.is("no items", x.sheet(form, form, 0), 0);
      Due.is("sixty items", x.sheet(form, form, 60), 60);
      Due.is("0 at first", x.get(form, form, 59), 0);
    }
    x.lay(1, 1, 7, 5);
    Due.is("refused", x.sheet(1, 1, -5), SIZE);
    Due.is("stays as it was", x.get(1, 1, 7), 5);
    x.lay(1, 1, 0, 6);
    Due.is("new again", x.sheet(1, 1, 8), 8);
    Due.is("0 again", x.get(1, 1, 0), 0);
    Due.is("0 again", x.get(1, 1, 7), 0);
    Due.is("of another form", x.sheet(1, 2, 8), 8);
    Due.is("is of it", x.lay(1, 2, 7, 1 << 20), 1);
  }

  private static void losing() {
    LogFlume x = new LogFlume();
    Due.is("lose(-1)", x.lose(-1), LogFlume.BAD);
    Due.is("lose(4)", x.lose(4), LogFlume.BAD);
    Due.is("no finding", x.count(8), 0);
    Due.is("lose(3)", x.lose(3), NULL);
    Due.is("count(8)", x.count(8), 1);
    x.sheet(3, 1, 17);
    Due.is("lose(3)", x.lose(3), 17);
    Due.is("lose(3)", x.lose(3), NULL);
    x.sheet(3, 1, 0);
    Due.is("of none", x.lose(3), 0);
    Due.is("lose(3)", x.lose(3), NULL);
  }

  private static void laying() {
    LogFlume x = new LogFlume();
    x.sheet(0, 0, 3);
    x.sheet(1, 1, 3);
    x.sheet(2, 2, 3);
    int[][] bad = {{-1, 0, 0}, {4, 0, 0}, {0, -1, 0}, {0, 3, 0}};
    for (int[] b : bad) {
      Due.is("lay " + b[0] + " " + b[1], x.lay(b[0], b[1], b[2], 1), LogFlume.BAD);
      Due.is("get " + b[0] + " " + b[1], x.get(b[0], b[1], b[2]), LEAST);
    }
    Due.is("no finding", x.count(8), 0);
    Due.is("BAD ahead of NULL", x.lay(3, 3, 0, 1), LogFlume.BAD);
    Due.is("NULL ahead of INDEX", x.lay(3, 0, -1, 1), NULL);
    Due.is("CAST ahead of INDEX", x.lay(0, 1, 3, 1), CAST);
    Due.is("count(8)", x.count(8), 3);
    Due.is("behind the end", x.lay(0, 0, 3, 1), INDEX);
    Due.is("below 0", x.lay(0, 0, -1, 1), INDEX);
    Due.is("count(8)", x.count(8), 2);
    int[][] rows = {
      {127, 127, 127, 127}, {128, -128, 128, 128}, {255, -1, 255, 255}, {256, 0, 256, 256}, {-129, 127, -129, -129},
      {32767, -1, 32767, 32767}, {32768, 0, -32768, 32768}, {65536, 0, 0, 65536}, {LEAST, 0, 0, LEAST}, {-1, -1, -1, -1},
    };
    for (int[] row : rows) {
      for (int form = 0; form < 3; form++) {
        Due.is("lay", x.lay(form, form, 2, row[0]), 1);
        Due.is(row[0] + " of form " + form, x.get(form, form, 2), row[form + 1]);
      }
    }
    Due.is("the one ahead stays", x.get(2, 2, 1), 0);
  }

  private static void getting() {
    LogFlume x = new LogFlume();
    x.sheet(1, 1, 4);
    x.lay(1, 1, 3, -7);
    Due.is("get", x.get(1, 1, 3), -7);
    Due.is("no finding", x.count(8), 0);
    Due.is("lost", x.get(0, 0, 9), LEAST);
    Due.is("NULL", x.count(8), 1);
    Due.is("another form", x.get(1, 2, 9), LEAST);
    Due.is("CAST", x.count(8), 3);
    Due.is("no such item", x.get(1, 1, 4), LEAST);
    Due.is("INDEX", x.count(8), 2);
    Due.is("below 0", x.get(1, 1, -1), LEAST);
    Due.is("BAD", x.get(4, 1, 0), LEAST);
    Due.is("BAD is no FINDING", x.count(8), 2);
  }

  private static LogFlume withRows() {
    LogFlume x = new LogFlume();
    x.sheet(0, 1, 6);
    x.sheet(1, 1, 4);
    x.sheet(2, 2, 6);
    for (int i = 0; i < 6; i++) {
      x.lay(0, 1, i, 10 + i);
    }
    return x;
  }

  private static void items(LogFlume x, int s, int form, int... want) {
    for (int i = 0; i < want.length; i++) {
      Due.is("item " + i + " of " + s, x.get(s, form, i), want[i]);
    }
  }

  private static void copying() {
    LogFlume x = withRows();
    Due.is("SHEET -1", x.copy(-1, 0, 0, 0, 0), LogFlume.BAD);
    Due.is("SHEET 4", x.copy(0, 0, 4, 0, 0), LogFlume.BAD);
    Due.is("BAD ahead of NULL", x.copy(3, 0, 4, 0, 0), LogFlume.BAD);
    Due.is("no finding", x.count(8), 0);
    Due.is("from a lost one", x.copy(3, 0, 0, 0, -1), NULL);
    Due.is("to a lost one", x.copy(0, 0, 3, 0, -1), NULL);
    Due.is("count(8)", x.count(8), 1);
    Due.is("STORE ahead of INDEX", x.copy(0, -1, 2, 0, 99), STORE);
    Due.is("STORE of none", x.copy(0, 0, 2, 0, 0), STORE);
    Due.is("count(8)", x.count(8), 4);
    int[][] beside = {{-1, 0, 1}, {0, -1, 1}, {0, 0, -1}, {6, 0, 1}, {5, 0, 2}, {0, 4, 1}, {0, 3, 2}, {0, 0, 5}, {7, 0, 0}, {0, 5, 0},
      {1, 1, Integer.MAX_VALUE}, {Integer.MAX_VALUE, 0, 1}, {0, Integer.MAX_VALUE, Integer.MAX_VALUE}};
    for (int[] b : beside) {
      Due.is("copy " + b[0] + " " + b[1] + " " + b[2], x.copy(0, b[0], 1, b[1], b[2]), INDEX);
    }
    Due.is("count(8)", x.count(8), 2);
    items(x, 1, 1, 0, 0, 0, 0);
    Due.is("none, at the ends", x.copy(0, 6, 1, 4, 0), 1);
    Due.is("copy", x.copy(0, 2, 1, 1, 3), 1);
    items(x, 1, 1, 0, 12, 13, 14);
    items(x, 0, 1, 10, 11, 12, 13, 14, 15);
    Due.is("down in itself", x.copy(0, 0, 0, 1, 4), 1);
    items(x, 0, 1, 10, 10, 11, 12, 13, 15);
    Due.is("up in itself", x.copy(0, 2, 0, 0, 4), 1);
    items(x, 0, 1, 11, 12, 13, 15, 13, 15);
  }

  private static void writing() {
    LogFlume x = Due.told("", "51", "");
    Due.is("MINUTE -1", x.write(-1, 0), LogFlume.BAD);
    Due.is("MINUTE 24", x.write(24, 0), LogFlume.BAD);
    Due.is("SHEET -1", x.write(0, -1), LogFlume.BAD);
    Due.is("SHEET 4", x.write(0, 4), LogFlume.BAD);
    Due.is("no finding", x.count(8), 0);
    Due.is("lost", x.write(0, 0), NULL);
    Due.is("count(8)", x.count(8), 1);
    for (int form = 0; form < 3; form++) {
      x.sheet(form, form, 20);
      for (int i = 0; i < 20; i++) {
        x.lay(form, form, i, 99);
      }
      Due.is("sixteen", x.write(2, form), 16);
      items(x, form, form, 5, 5, 4, 0, 0, 0, 0, 0, 0, 0, 0, 0, 0, 0, 0, 0, 99, 99, 99, 99);
    }
    x.sheet(3, 0, 2);
    Due.is("two", x.write(1, 3), 2);
    items(x, 3, 0, 5, 5);
    x.event(1, 1, 0);
    Due.is("behind a change", x.write(1, 3), 2);
    items(x, 3, 0, 0, 5);
    x.back();
    Due.is("behind another", x.write(1, 3), 2);
    items(x, 3, 0, 5, 5);
    x.sheet(3, 0, 0);
    Due.is("none", x.write(1, 3), 0);
  }
}
