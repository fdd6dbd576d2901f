import java.lang.reflect.Method;
import java.lang.reflect.Modifier;
import java.net.URL;
import java.net.URLClassLoader;
import java.nio.file.Files;
import java.nio.file.Path;
import java.util.ArrayList;
import java.util.Arrays;
import java.util.List;
import java.util.Set;
import java.util.TreeSet;
import java.util.regex.Matcher;
import java.util.regex.Pattern;
import java.util.stream.Stream;
import javax.tools.ToolProvider;

/** What README.md shows: its Java is compiled and run, each call held against the answer that stands behind it. */
public final class ReadmeTest {
  private static final Pattern CALL = Pattern.compile("([xy]\\.(\\w+)\\(.*\\)); +// (-?\\d+)\\b.*");
  private static final Pattern REFUSAL = Pattern.compile("\\| (\\S+) \\| (-\\d+) \\| (\\d*) ?\\|.*");

  private final List<String> helpers = new ArrayList<>();
  private final List<String> steps = new ArrayList<>();
  private final Set<String> methods = new TreeSet<>();
  private final List<String> calls = new ArrayList<>();
  private final List<String> due = new ArrayList<>();

  public static void main(String[] args) throws Exception {
    String page = Files.readString(Path.of("README.md"));
    ReadmeTest test = new ReadmeTest();
    test.readCode(page);
    test.everyMethodIsShown(page);
    test.refusalsAreAsShown(page);
    namesEveryTest(page);
    test.runCode();
    Due.end();
  }

  private static void yes(String what, boolean holds) {
    Due.is(what, holds ? 1 : 0, 1);
  }

  private void readCode(String page) {
    Matcher block = Pattern.compile("(?s)```java\n(.*?)```").matcher(page);
    while (block.find()) {
      boolean isHelper = block.group(1).startsWith("static ");
      for (String line : block.group(1).split("\n")) {
        if (isHelper) {
          helpers.add(line);
        } else {
          steps.add(step(line));
        }
      }
    }
    yes("README shows code", !helpers.isEmpty() && !steps.isEmpty());
  }

  private String step(String line) {
    Matcher call = CALL.matcher(line);
    if (!call.matches()) {
      yes("a line that calls has an answer: " + line, line.matches("LogFlume [xy] = new LogFlume\\(\\);|tell\\([xy], \\d, \"[^\"]*\"\\);"));
      return line;
    }
    methods.add(call.group(2));
    calls.add(call.group(1));
    due.add(call.group(3));
    return "row.add((long) " + call.group(1) + ");";
  }

  private void everyMethodIsShown(String page) {
    for (Method m : LogFlume.class.getDeclaredMethods()) {
      if (Modifier.isPublic(m.getModifiers())) {
        yes("README makes a call of " + m.getName(), methods.contains(m.getName()));
        yes("README tells what " + m.getName() + " does", page.contains("`" + m.getName() + "("));
      }
    }
  }

  private void refusalsAreAsShown(String page) {
    Set<String> rows = new TreeSet<>();
    Matcher row = REFUSAL.matcher(page);
    while (row.find()) {
      rows.add(row.group(1).replace("`", "").replace("LogFlume.", "") + " " + row.group(2) + " " + row.group(3));
      yes("README shows a call with the answer " + row.group(2), due.contains(row.group(2)));
    }
    Set<String> all = new TreeSet<>(Arrays.asList("BAD -2 ", "NOT -3 ", "FULL -4 ", "NULL -11 1", "INDEX -12 2", "CAST -13 3", "STORE -14 4",
        "SIZE -15 5"));
    yes("README's refusals are " + all + ", got " + rows, rows.equals(all));
    yes("README shows NONE", due.contains(String.valueOf(LogFlume.NONE)));
    yes("README shows the least int", due.contains(String.valueOf(Integer.MIN_VALUE)));
    yes("README shows BAD as a long", due.contains(String.valueOf(Due.BAD_LONG)));
  }

  private static void namesEveryTest(String page) throws Exception {
    try (Stream<Path> files = Files.list(Path.of("src/test/java"))) {
      for (Path file : files.toList()) {
        String name = file.getFileName().toString().replace(".java", "");
        if (name.endsWith("Test")) {
          yes("README names " + name, page.contains("`" + name + "`"));
        }
      }
    }
    yes("README names the command", page.contains("`.ci/run`") && Files.isExecutable(Path.of(".ci/run")));
  }

  private void runCode() throws Exception {
    Path dir = Files.createTempDirectory("readme");
    Path file = dir.resolve("Readme.java");
    try {
      Files.writeString(file, "public final class Readme {\n" + String.join("\n", helpers)
          + "\npublic static java.util.List<Long> answers() {\njava.util.List<Long> row = new java.util.ArrayList<>();\n"
          + String.join("\n", steps) + "\nreturn row;\n}\n}\n");
      String path = System.getProperty("java.class.path");
      int failed = ToolProvider.getSystemJavaCompiler().run(null, null, null, "-cp", path, "-d", dir.toString(), file.toString());
      Due.is("README's code compiles", failed, 0);
      if (failed == 0) {
        compare(dir);
      }
    } finally {
      Files.deleteIfExists(dir.resolve("Readme.class"));
      Files.deleteIfExists(file);
      Files.deleteIfExists(dir);
    }
  }

  private void compare(Path dir) throws Exception {
    try (URLClassLoader loader = new URLClassLoader(new URL[] {dir.toUri().toURL()})) {
      List<?> got = (List<?>) loader.loadClass("Readme").getMethod("answers").invoke(null);
      Due.is("README's calls are made", got.size(), calls.size());
      for (int i = 0; i < calls.size() && i < got.size(); i++) {
        Due.is("README: " + calls.get(i), (Long) got.get(i), Long.parseLong(due.get(i)));
      }
    }
  }
}
