import com.sun.source.tree.ArrayTypeTree;
import com.sun.source.tree.AssignmentTree;
import com.sun.source.tree.BinaryTree;
import com.sun.source.tree.BlockTree;
import com.sun.source.tree.ClassTree;
import com.sun.source.tree.CompilationUnitTree;
import com.sun.source.tree.CompoundAssignmentTree;
import com.sun.source.tree.ExpressionTree;
import com.sun.source.tree.ForLoopTree;
import com.sun.source.tree.LiteralTree;
import com.sun.source.tree.MemberSelectTree;
import com.sun.source.tree.MethodInvocationTree;
import com.sun.source.tree.MethodTree;
import com.sun.source.tree.NewArrayTree;
import com.sun.source.tree.NewClassTree;
import com.sun.source.tree.Tree;
import com.sun.source.tree.TypeCastTree;
import com.sun.source.tree.UnaryTree;
import com.sun.source.tree.VariableTree;
import com.sun.source.util.JavacTask;
import com.sun.source.util.SourcePositions;
import com.sun.source.util.TreePath;
import com.sun.source.util.TreePathScanner;
import com.sun.source.util.TreeScanner;
import com.sun.source.util.Trees;
import java.nio.file.Files;
import java.nio.file.Path;
import java.util.Arrays;
import java.util.EnumSet;
import java.util.List;
import java.util.Map;
import java.util.Set;
import java.util.TreeMap;
import java.util.TreeSet;
import javax.lang.model.element.Element;
import javax.lang.model.element.ElementKind;
import javax.lang.model.element.Modifier;
import javax.tools.JavaCompiler;
import javax.tools.StandardJavaFileManager;
import javax.tools.ToolProvider;

/** The rules of LANGUAGE.md that can be seen in the source, as the compiler reads it. */
public final class RulesTest extends TreePathScanner<Void, Void> {
  private static final Path SOURCE = Path.of("src/main/java/LogFlume.java");
  private static final int DEEPEST = 8, LONGEST = 60, CLASSES = 12, FIELDS = 20, PARAMETERS = 7;

  /** Of the library of rule 4, what the class has use for. */
  private static final Set<String> LIBRARY = new TreeSet<>(Arrays.asList("java.lang.System.arraycopy", "java.lang.Math.min", "java.lang.Math.max",
      "java.lang.Integer.bitCount"));
  private static final Set<Tree.Kind> RULED_OUT = EnumSet.of(Tree.Kind.THROW, Tree.Kind.TRY, Tree.Kind.CATCH, Tree.Kind.SYNCHRONIZED,
      Tree.Kind.ASSERT, Tree.Kind.LAMBDA_EXPRESSION, Tree.Kind.MEMBER_REFERENCE, Tree.Kind.IMPORT, Tree.Kind.PACKAGE, Tree.Kind.BINDING_PATTERN,
      Tree.Kind.DOUBLE_LITERAL, Tree.Kind.FLOAT_LITERAL, Tree.Kind.ANNOTATION, Tree.Kind.ERRONEOUS);
  private static final Set<Tree.Kind> LOOPS_WITHOUT_COUNTER = EnumSet.of(Tree.Kind.WHILE_LOOP, Tree.Kind.DO_WHILE_LOOP);

  private final Trees trees;
  private final SourcePositions places;
  private final CompilationUnitTree unit;
  private final Map<String, Set<String>> calls = new TreeMap<>();
  private int classes = 0;

  private RulesTest(Trees trees, CompilationUnitTree unit) {
    this.trees = trees;
    this.places = trees.getSourcePositions();
    this.unit = unit;
  }

  public static void main(String[] args) throws Exception {
    JavaCompiler compiler = ToolProvider.getSystemJavaCompiler();
    try (StandardJavaFileManager files = compiler.getStandardFileManager(null, null, null)) {
      List<String> options = List.of("-proc:none");
      JavacTask task = (JavacTask) compiler.getTask(null, files, null, options, null, files.getJavaFileObjects(SOURCE));
      CompilationUnitTree unit = task.parse().iterator().next();
      task.analyze();
      RulesTest test = new RulesTest(Trees.instance(task), unit);
      test.scan(unit, null);
      test.whole();
    }
    yes("signs 1 to 127", Files.readString(SOURCE).chars().allMatch(c -> c == '\n' || c >= 32 && c < 127));
    Due.end();
  }

  private static void yes(String what, boolean holds) {
    Due.is(what, holds ? 1 : 0, 1);
  }

  private String where(Tree tree) {
    return "line " + line(places.getStartPosition(unit, tree)) + ": ";
  }

  private long line(long place) {
    return unit.getLineMap().getLineNumber(place);
  }

  private void whole() {
    yes("at most twelve classes", classes <= CLASSES);
    for (String method : calls.keySet()) {
      int depth = depth(method, 1);
      yes(method + " calls at most " + DEEPEST + " deep, is " + depth, depth <= DEEPEST);
    }
  }

  /** How many calls stand open at most; a call that comes back to itself would be far above all bounds. */
  private int depth(String method, int open) {
    int most = open;
    if (open <= 100) {
      for (String next : calls.getOrDefault(method, Set.of())) {
        most = Math.max(most, depth(next, open + 1));
      }
    }
    return most;
  }

  @Override
  public Void scan(Tree tree, Void v) {
    if (tree != null) {
      yes(where(tree) + tree.getKind() + " is ruled out", !RULED_OUT.contains(tree.getKind()));
      yes(where(tree) + "a loop has a counter", !LOOPS_WITHOUT_COUNTER.contains(tree.getKind()));
    }
    return super.scan(tree, v);
  }

  @Override
  public Void visitClass(ClassTree tree, Void v) {
    classes++;
    Set<Modifier> of = tree.getModifiers().getFlags();
    boolean isTop = getCurrentPath().getParentPath().getLeaf().getKind() == Tree.Kind.COMPILATION_UNIT;
    yes(where(tree) + "public and final, or static and not public", isTop ? of.contains(Modifier.PUBLIC) && of.contains(Modifier.FINAL)
        : of.contains(Modifier.STATIC) && !of.contains(Modifier.PUBLIC) && !of.contains(Modifier.PROTECTED));
    yes(where(tree) + "no class in a method", isTop || getCurrentPath().getParentPath().getLeaf() instanceof ClassTree);
    int fields = 0;
    for (Tree member : tree.getMembers()) {
      yes(where(member) + "no block beside the methods", !(member instanceof BlockTree));
      if (member instanceof VariableTree) {
        VariableTree field = (VariableTree) member;
        if (field.getModifiers().getFlags().contains(Modifier.STATIC)) {
          constant(field);
        } else {
          fields++;
        }
      }
    }
    yes(where(tree) + "some twenty fields", fields <= FIELDS);
    return super.visitClass(tree, v);
  }

  private void constant(VariableTree field) {
    yes(where(field) + "a static field is final", field.getModifiers().getFlags().contains(Modifier.FINAL));
    boolean isRow = field.getType() instanceof ArrayTypeTree;
    String type = field.getType().toString();
    yes(where(field) + "of a type that a constant may have: " + type,
        List.of("int", "long", "boolean", "char", "String", "int[]", "long[]", "char[]", "byte[]").contains(type));
    ExpressionTree first = field.getInitializer();
    yes(where(field) + "written out", isRow ? first instanceof NewArrayTree && ((NewArrayTree) first).getInitializers() != null
        : first != null && ((javax.lang.model.element.VariableElement) element(field)).getConstantValue() != null);
  }

  private Element element(Tree tree) {
    return trees.getElement(new TreePath(getCurrentPath(), tree));
  }

  @Override
  public Void visitMethod(MethodTree tree, Void v) {
    yes(where(tree) + "at most seven parameters", tree.getParameters().size() <= PARAMETERS);
    yes(where(tree) + "no throws", tree.getThrows().isEmpty());
    long lines = line(places.getEndPosition(unit, tree)) - line(places.getStartPosition(unit, tree)) + 1;
    yes(where(tree) + tree.getName() + " is short", lines <= LONGEST);
    return super.visitMethod(tree, v);
  }

  /** The method or constructor around a tree, with its class; a field's first value counts to the constructor. */
  private String around() {
    String method = "<init>";
    for (TreePath path = getCurrentPath(); path != null; path = path.getParentPath()) {
      if (path.getLeaf() instanceof MethodTree) {
        method = ((MethodTree) path.getLeaf()).getName().toString();
      }
      if (path.getLeaf() instanceof ClassTree) {
        return ((ClassTree) path.getLeaf()).getSimpleName() + "." + method;
      }
    }
    return method;
  }

  private void call(Tree tree) {
    Element to = trees.getElement(getCurrentPath());
    Element of = to.getEnclosingElement();
    if (of.toString().startsWith("LogFlume")) {
      calls.computeIfAbsent(around(), k -> new TreeSet<>()).add(of.getSimpleName() + "." + to.getSimpleName());
    } else if (to.getKind() == ElementKind.CONSTRUCTOR) {
      yes(where(tree) + "no object of the library but its own super's", of.toString().equals("java.lang.Object"));
    } else {
      String name = of + "." + to.getSimpleName();
      yes(where(tree) + name + " is in the library of rule 4", LIBRARY.contains(name));
    }
  }

  @Override
  public Void visitMethodInvocation(MethodInvocationTree tree, Void v) {
    call(tree);
    return super.visitMethodInvocation(tree, v);
  }

  @Override
  public Void visitNewClass(NewClassTree tree, Void v) {
    call(tree);
    yes(where(tree) + "no class without a name", tree.getClassBody() == null);
    yes(where(tree) + "objects are made in constructors alone", around().endsWith("<init>"));
    return super.visitNewClass(tree, v);
  }

  @Override
  public Void visitNewArray(NewArrayTree tree, Void v) {
    yes(where(tree) + "rows are made in constructors alone", around().endsWith("<init>"));
    yes(where(tree) + "rows of one dimension", tree.getDimensions().size() <= 1);
    return super.visitNewArray(tree, v);
  }

  @Override
  public Void visitMemberSelect(MemberSelectTree tree, Void v) {
    Element to = trees.getElement(getCurrentPath());
    boolean isLibrarys = to != null && to.getKind() == ElementKind.FIELD && !to.getEnclosingElement().toString().startsWith("LogFlume");
    yes(where(tree) + "no field of the library but a row's length", !isLibrarys || tree.getIdentifier().contentEquals("length"));
    return super.visitMemberSelect(tree, v);
  }

  @Override
  public Void visitTypeCast(TypeCastTree tree, Void v) {
    yes(where(tree) + "casts of numbers alone", tree.getType().getKind() == Tree.Kind.PRIMITIVE_TYPE);
    return super.visitTypeCast(tree, v);
  }

  @Override
  public Void visitBinary(BinaryTree tree, Void v) {
    boolean divides = tree.getKind() == Tree.Kind.DIVIDE || tree.getKind() == Tree.Kind.REMAINDER;
    yes(where(tree) + "divided by a number that is written there", !divides || isWrittenAndNotZero(tree.getRightOperand()));
    return super.visitBinary(tree, v);
  }

  @Override
  public Void visitCompoundAssignment(CompoundAssignmentTree tree, Void v) {
    boolean divides = tree.getKind() == Tree.Kind.DIVIDE_ASSIGNMENT || tree.getKind() == Tree.Kind.REMAINDER_ASSIGNMENT;
    yes(where(tree) + "divided by a number that is written there", !divides || isWrittenAndNotZero(tree.getExpression()));
    return super.visitCompoundAssignment(tree, v);
  }

  private static boolean isWrittenAndNotZero(ExpressionTree divisor) {
    return divisor instanceof LiteralTree && !List.of(0, 0L).contains(((LiteralTree) divisor).getValue());
  }

  /** A counter that goes up by what is written at the loop and is not touched in it, against a bound. */
  @Override
  public Void visitForLoop(ForLoopTree tree, Void v) {
    yes(where(tree) + "a loop has a counter, a bound and a step",
        tree.getInitializer().size() == 1 && tree.getCondition() != null && tree.getUpdate().size() == 1);
    String counter = ((VariableTree) tree.getInitializer().get(0)).getName().toString();
    yes(where(tree) + "its bound is that of the counter", tree.getCondition().toString().matches(".*\\b" + counter + "( \\+ \\d)? <=? .*"));
    yes(where(tree) + "its counter goes up", tree.getUpdate().get(0).toString().matches(counter + "(\\+\\+| \\+= [1-9]);?"));
    new TreeScanner<Void, Void>() {
      private void touched(Tree what) {
        yes(where(what) + "the counter is not touched in the loop", !what.toString().equals(counter));
      }

      @Override
      public Void visitAssignment(AssignmentTree t, Void w) {
        touched(t.getVariable());
        return super.visitAssignment(t, w);
      }

      @Override
      public Void visitCompoundAssignment(CompoundAssignmentTree t, Void w) {
        touched(t.getVariable());
        return super.visitCompoundAssignment(t, w);
      }

      @Override
      public Void visitUnary(UnaryTree t, Void w) {
        if (t.getKind().toString().matches("(PRE|POST)FIX_.*")) {
          touched(t.getExpression());
        }
        return super.visitUnary(t, w);
      }
    }.scan(tree.getStatement(), null);
    return super.visitForLoop(tree, v);
  }
}
