import java.lang.reflect.Constructor;
import java.lang.reflect.Field;
import java.lang.reflect.Method;
import java.lang.reflect.Modifier;
import java.util.Arrays;
import java.util.Set;
import java.util.TreeSet;

/** The face of the document, as rule 1 of LANGUAGE.md asks for it; the other rules are held by RulesTest. */
public final class FaceTest {
  private static final String FACE = "type 2, wipe 1, undo 1, fault 1, span 2, log 2, event 3, back 0, read 1, flume 3, at 3, all 2, "
      + "out 2, jam 0, left 1, worst 0, send 2, steep 1, fill 1, spare 1, seen 3, forget 0, never 0, draughts 1, grade 1, ask 1, "
      + "chance 3 long, seasons 3, sheet 3, lose 1, lay 4, get 3, copy 5, write 2, count 1, digest 0 long";

  public static void main(String[] args) {
    methods();
    constants();
    classesInside();
    Due.end();
  }

  private static void yes(String what, boolean holds) {
    Due.is(what, holds ? 1 : 0, 1);
  }

  private static void methods() {
    Set<String> want = new TreeSet<>(Arrays.asList(FACE.split(", ")));
    Set<String> names = new TreeSet<>();
    for (String row : want) names.add(row.split(" ")[0]);
    Set<String> got = new TreeSet<>();
    for (Method m : LogFlume.class.getDeclaredMethods()) {
      if (Modifier.isPublic(m.getModifiers())) {
        got.add(m.getName() + " " + m.getParameterCount() + (m.getReturnType() == long.class ? " long" : ""));
        yes(m + " is of the object", !Modifier.isStatic(m.getModifiers()));
      } else {
        yes(m + " is private", Modifier.isPrivate(m.getModifiers()));
        yes(m + " has no public one's name", !names.contains(m.getName()));
      }
      yes(m + " has at most seven parameters", m.getParameterCount() <= 7);
    }
    yes("the methods are " + want + ", got " + got, want.equals(got));
    Constructor<?>[] made = LogFlume.class.getDeclaredConstructors();
    yes("one constructor", made.length == 1 && Modifier.isPublic(made[0].getModifiers()) && made[0].getParameterCount() == 0);
    int of = LogFlume.class.getModifiers();
    yes("public and final", Modifier.isPublic(of) && Modifier.isFinal(of));
  }

  private static void constants() {
    int fields = 0;
    Set<String> seen = new TreeSet<>();
    for (Field f : LogFlume.class.getDeclaredFields()) {
      if (Modifier.isPublic(f.getModifiers())) {
        seen.add(f.getName());
      } else {
        yes(f + " is private", Modifier.isPrivate(f.getModifiers()));
      }
      if (Modifier.isStatic(f.getModifiers())) {
        yes(f + " is final", Modifier.isFinal(f.getModifiers()));
      } else {
        fields++;
      }
    }
    yes("constants " + seen, seen.equals(new TreeSet<>(Arrays.asList("NONE", "BAD", "NOT", "FULL"))));
    yes("some twenty fields", fields <= 20);
    Due.is("NONE", LogFlume.NONE, -1);
    Due.is("BAD", LogFlume.BAD, -2);
    Due.is("NOT", LogFlume.NOT, -3);
    Due.is("FULL", LogFlume.FULL, -4);
  }

  private static void classesInside() {
    Class<?>[] inside = LogFlume.class.getDeclaredClasses();
    yes("at most twelve classes", inside.length <= 11);
    Set<String> names = new TreeSet<>();
    for (String row : FACE.split(", ")) names.add(row.split(" ")[0]);
    for (Class<?> c : inside) {
      int of = c.getModifiers();
      yes(c + " is static", Modifier.isStatic(of));
      yes(c + " is not public", !Modifier.isPublic(of) && !Modifier.isProtected(of));
      for (Method m : c.getDeclaredMethods()) {
        yes(m + " has no public one's name", !names.contains(m.getName()));
      }
    }
  }
}
