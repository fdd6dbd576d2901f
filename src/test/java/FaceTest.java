import java.lang.reflect.Constructor;
import java.lang.reflect.Field;
import java.lang.reflect.Method;
import java.lang.reflect.Modifier;
import java.nio.file.Files;
import java.nio.file.Path;
import java.util.Arrays;
import java.util.Set;
import java.util.TreeSet;
import java.util.regex.Matcher;
import java.util.regex.Pattern;

/** The face of the document, and the rules of LANGUAGE.md that can be seen in the class or in its text. */
public final class FaceTest {
  private static final String FACE = "type 2, wipe 1, undo 1, fault 1, span 2, log 2, event 3, back 0, read 1, flume 3, at 3, all 2, "
      + "out 2, jam 0, left 1, worst 0, send 2, steep 1, fill 1, spare 1, seen 3, forget 0, never 0, draughts 1, grade 1, ask 1, "
      + "chance 3 long, seasons 3, sheet 3, lose 1, lay 4, get 3, copy 5, write 2, count 1, digest 0 long";

  public static void main(String[] args) throws Exception {
    methods();
    constants();
    classesInside();
    words();
    lengths();
    Due.end();
  }

  private static void yes(String what, boolean holds) {
    Due.is(what, holds ? 1 : 0, 1);
  }

  private static void methods() {
    Set<String> want = new TreeSet<>(Arrays.asList(FACE.split(", ")));
    Set<String> names = new TreeSet<>();
    for (String row : want) names.add(row.split(" ")[0]);
    Set<String> got = new TreeSet<>();
    for (Method m : LogFlume.class.getDeclaredMethods()) {
      if (Modifier.isPublic(m.getModifiers())) {
        got.add(m.getName() + " " + m.getParameterCount() + (m.getReturnType() == long.class ? " long" : ""));
        yes(m + " is of the object", !Modifier.isStatic(m.getModifiers()));
      } else {
        yes(m + " is private", Modifier.isPrivate(m.getModifiers()));
        yes(m + " has no public one's name", !names.contains(m.getName()));
      }
      yes(m + " has at most seven parameters", m.getParameterCount() <= 7);
    }
    yes("the methods are " + want + ", got " + got, want.equals(got));
    Constructor<?>[] made = LogFlume.class.getDeclaredConstructors();
    yes("one constructor", made.length == 1 && Modifier.isPublic(made[0].getModifiers()) && made[0].getParameterCount() == 0);
    int of = LogFlume.class.getModifiers();
    yes("public and final", Modifier.isPublic(of) && Modifier.isFinal(of));
  }

  private static void constants() {
    int fields = 0;
    Set<String> seen = new TreeSet<>();
    for (Field f : LogFlume.class.getDeclaredFields()) {
      if (Modifier.isPublic(f.getModifiers())) {
        seen.add(f.getName());
      } else {
        yes(f + " is private", Modifier.isPrivate(f.getModifiers()));
      }
      if (Modifier.isStatic(f.getModifiers())) {
        yes(f + " is final", Modifier.isFinal(f.getModifiers()));
      } else {
        fields++;
      }
    }
    yes("constants " + seen, seen.equals(new TreeSet<>(Arrays.asList("NONE", "BAD", "NOT", "FULL"))));
    yes("some twenty fields", fields <= 20);
    Due.is("NONE", LogFlume.NONE, -1);
    Due.is("BAD", LogFlume.BAD, -2);
    Due.is("NOT", LogFlume.NOT, -3);
    Due.is("FULL", LogFlume.FULL, -4);
  }

  private static void classesInside() {
    Class<?>[] inside = LogFlume.class.getDeclaredClasses();
    yes("at most twelve classes", inside.length <= 11);
    Set<String> names = new TreeSet<>();
    for (String row : FACE.split(", ")) names.add(row.split(" ")[0]);
    for (Class<?> c : inside) {
      int of = c.getModifiers();
      yes(c + " is static", Modifier.isStatic(of));
      yes(c + " is not public", !Modifier.isPublic(of) && !Modifier.isProtected(of));
      for (Method m : c.getDeclaredMethods()) {
        yes(m + " has no public one's name", !names.contains(m.getName()));
      }
    }
  }

  private static String source() throws Exception {
    String text = Files.readString(Path.of("src/main/java/LogFlume.java"));
    return text.replaceAll("(?s)/\\*.*?\\*/", " ").replaceAll("//[^\n]*", " ");
  }

  private static void words() throws Exception {
    String text = source();
    String[] ruledOut = {"throw", "throws", "try", "catch", "synchronized", "assert", "import", "package", "protected", "Exact", "native",
      "volatile", "transient", "hashCode", "equals", "toString", "Object", "double", "float"};
    for (String word : ruledOut) {
      yes("no word " + word, !Pattern.compile("\\b" + word + "\\b").matcher(text).find());
    }
    yes("no lambda", !text.contains("->"));
    yes("no method reference", !text.contains("::"));
    yes("plain signs alone", text.chars().allMatch(c -> c == '\n' || c >= 32 && c < 127));
    yes("no library but this", Pattern.compile("\\b(java|javax)\\.").matcher(text).find() == false);
    Matcher calls = Pattern.compile("\\b(System|Math|Integer|Long|Arrays)\\.(\\w+)").matcher(text);
    Set<String> may = new TreeSet<>(Arrays.asList("System.arraycopy", "Math.min", "Math.max", "Integer.bitCount"));
    while (calls.find()) yes("may use " + calls.group(), may.contains(calls.group()));
  }

  /** A method begins at a line of its own and ends at the brace that stands as far in. */
  private static void lengths() throws Exception {
    String[] lines = source().split("\n");
    for (int i = 0; i < lines.length; i++) {
      if (!lines[i].matches("( {2}| {4})\\S.*\\) \\{")) continue;
      String end = lines[i].startsWith("    ") ? "    }" : "  }";
      int to = i;
      while (to < lines.length && !lines[to].equals(end)) to++;
      yes("short: " + lines[i].trim(), to - i < 60);
    }
  }
}
