import java.io.IOException;
import java.io.UncheckedIOException;
import java.nio.file.Files;
import java.nio.file.Path;
import java.util.regex.Matcher;
import java.util.regex.Pattern;

/**
 * The document's own sentences. Each test of a bound quotes the one that it holds the class to;
 * a quote must stand in the document, and in the end no word there may be left without a quote.
 */
final class Says {
  private static final int TERMS = 0, PROMISES = 37;
  private static final String[] TEXTS = new String[PROMISES + 1];
  private static final boolean[][] QUOTED = new boolean[PROMISES + 1][];

  static {
    String doc = document();
    int promises = doc.indexOf("## Promise 1:");
    TEXTS[TERMS] = plain(doc.substring(doc.indexOf("## Terms") + 8, promises));
    Matcher m = Pattern.compile("## Promise (\\d+): [^\n]*\n+`[^`]*`:([^#]*)").matcher(doc);
    while (m.find()) {
      TEXTS[Integer.parseInt(m.group(1))] = plain(m.group(2));
    }
    for (int part = 0; part <= PROMISES; part++) {
      QUOTED[part] = new boolean[TEXTS[part].length()];
    }
  }

  private Says() {}

  private static String document() {
    try {
      return Files.readString(Path.of("../shared/DOC.md"));
    } catch (IOException e) {
      throw new UncheckedIOException(e);
    }
  }

  /** Without what is no sentence: fences, the numbers of sections, where the interface says what. */
  private static String plain(String text) {
    return text.replaceAll("```(text)?", " ").replaceAll("={8} \\d", " ").replaceAll("Ahead of the calls [^\n]*", " ")
        .replaceAll("\\s+", " ").trim();
  }

  static void terms(String quote) {
    promise(TERMS, quote);
  }

  static void promise(int part, String quote) {
    Due.by((part == TERMS ? "" : "promise " + part + ": ") + quote);
    int at = TEXTS[part].indexOf(quote);
    Due.is("the document says so", at >= 0 ? 1 : 0, 1);
    Due.is("and says so once there", TEXTS[part].lastIndexOf(quote), at);
    for (int i = at; at >= 0 && i < at + quote.length(); i++) {
      QUOTED[part][i] = true;
    }
  }

  static void nothingIsLeftOut() {
    for (int part = 0; part <= PROMISES; part++) {
      StringBuilder left = new StringBuilder();
      for (int i = 0; i < TEXTS[part].length(); i++) {
        left.append(QUOTED[part][i] ? ' ' : TEXTS[part].charAt(i));
      }
      Due.by("every word of the document has a test");
      String words = left.toString().replaceAll("\\s+", " ").trim();
      Due.is("part " + part + ": letters left in '" + words + "'", words.replaceAll("[^A-Za-z0-9]", "").length(), 0);
    }
  }
}
