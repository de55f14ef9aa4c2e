import com.sun.source.tree.AssertTree;
import com.sun.source.tree.BinaryTree;
import com.sun.source.tree.CatchTree;
import com.sun.source.tree.ClassTree;
import com.sun.source.tree.CompilationUnitTree;
import com.sun.source.tree.CompoundAssignmentTree;
import com.sun.source.tree.DoWhileLoopTree;
import com.sun.source.tree.EnhancedForLoopTree;
import com.sun.source.tree.ExpressionTree;
import com.sun.source.tree.ForLoopTree;
import com.sun.source.tree.LambdaExpressionTree;
import com.sun.source.tree.LiteralTree;
import com.sun.source.tree.MemberReferenceTree;
import com.sun.source.tree.MethodInvocationTree;
import com.sun.source.tree.MethodTree;
import com.sun.source.tree.NewArrayTree;
import com.sun.source.tree.NewClassTree;
import com.sun.source.tree.SynchronizedTree;
import com.sun.source.tree.ThrowTree;
import com.sun.source.tree.Tree;
import com.sun.source.tree.TryTree;
import com.sun.source.tree.VariableTree;
import com.sun.source.tree.WhileLoopTree;
import com.sun.source.util.JavacTask;
import com.sun.source.util.TreePathScanner;
import com.sun.source.util.Trees;
import java.nio.file.Files;
import java.nio.file.Path;
import java.util.ArrayList;
import java.util.HashMap;
import java.util.LinkedHashMap;
import java.util.LinkedHashSet;
import java.util.List;
import java.util.Map;
import java.util.Set;
import java.util.TreeSet;
import javax.lang.model.element.Element;
import javax.lang.model.element.ElementKind;
import javax.lang.model.element.ExecutableElement;
import javax.lang.model.element.Modifier;
import javax.lang.model.element.TypeElement;
import javax.lang.model.type.ArrayType;
import javax.lang.model.type.DeclaredType;
import javax.lang.model.type.TypeMirror;
import javax.tools.JavaCompiler;
import javax.tools.StandardJavaFileManager;
import javax.tools.ToolProvider;

/**
 * Holds the class to the document's face and to the rules of LANGUAGE.md that can be seen from its text. Where
 * the class has no need of what a rule leaves, this asks for less than the rule: no class of a list, no try, no
 * new in any loop. The arguments are the folders of the project and of ../shared.
 */
public final class RulesTest {
  private static final String CLASS = "NoonValley";
  private static final Map<String, Set<String>> LIBRARY = Map.of(
      "java.lang.String", Set.of("length", "charAt", "isEmpty", "equals", "indexOf", "substring", "toCharArray"),
      "java.lang.StringBuilder", Set.of("append", "charAt", "setCharAt", "setLength", "deleteCharAt", "reverse",
          "length", "toString"),
      "java.lang.Integer", Set.of("bitCount", "compare", "max", "min"),
      "java.lang.Long", Set.of("bitCount", "compare", "max", "min"),
      "java.lang.Math", Set.of("abs", "max", "min", "floorDiv", "floorMod"),
      "java.lang.System", Set.of("arraycopy"),
      "java.util.Arrays", Set.of("copyOf", "copyOfRange", "fill"));
  private static final Set<String> EXCEPTIONS = Set.of("java.lang.IllegalStateException",
      "java.lang.IllegalArgumentException", "java.lang.IndexOutOfBoundsException", "java.lang.ArithmeticException",
      "java.lang.UnsupportedOperationException", "java.util.NoSuchElementException", "java.lang.RuntimeException");
  private static final Set<String> TYPES = Set.of("java.lang.String", "java.lang.StringBuilder");
  private static final int PARAMETERS = 7;
  private static final int LINES = 60;
  private static final int CALLS_DEEP = 8;
  private static final int CLASSES = 12;
  private static final int FIELDS = 20;

  public static void main(String[] args) throws Exception {
    Path project = Path.of(args.length > 0 ? args[0] : ".");
    Path shared = Path.of(args.length > 1 ? args[1] : "../shared");
    JavaCompiler compiler = ToolProvider.getSystemJavaCompiler();
    try (StandardJavaFileManager files = compiler.getStandardFileManager(null, null, null)) {
      Path file = project.resolve("src/main/java/" + CLASS + ".java");
      JavacTask task = (JavacTask) compiler.getTask(null, files, null, List.of("-proc:none"), null,
          files.getJavaFileObjects(file));
      CompilationUnitTree unit = task.parse().iterator().next();
      task.analyze();
      face(unit, Files.readString(shared.resolve("DOC.md")));
      Reader reader = new Reader(Trees.instance(task), unit);
      reader.scan(unit, null);
      Check.promise(0, "rule 11");
      Check.yes(reader.classes + " classes", reader.classes <= CLASSES);
      depths(reader);
    }
    Check.finish();
  }

  private static void rule(int number, String what, boolean holds) {
    Check.promise(0, "rule " + number + " of LANGUAGE.md");
    Check.yes(what, holds);
  }

  // Rule 1: the face.

  private static String plain(String text) {
    return text.replaceAll("\\s+", " ").replaceAll(" ?([(),{}=;]) ?", "$1").trim();
  }

  private static Set<String> faceOfDocument(String document) {
    int start = document.indexOf("```java");
    String face = document.substring(start, document.indexOf("```", start + 7));
    Set<String> members = new TreeSet<>();
    for (String line : face.split("\n")) {
      if (line.startsWith("    public ")) {
        members.add(plain(line.substring(0, line.indexOf(';'))));
      }
    }
    return members;
  }

  private static void face(CompilationUnitTree unit, String document) {
    Check.promise(0, "rule 1 of LANGUAGE.md");
    Check.yes("no package", unit.getPackageName() == null);
    Check.same("types in the file", unit.getTypeDecls().size(), 1);
    ClassTree face = (ClassTree) unit.getTypeDecls().get(0);
    Check.yes("public and final", face.getModifiers().getFlags().containsAll(Set.of(Modifier.PUBLIC, Modifier.FINAL)));
    Set<String> members = new TreeSet<>();
    for (Tree member : face.getMembers()) {
      String text = plain(member.toString().split("\\{")[0]);
      Set<Modifier> flags = flagsOf(member);
      if (flags.contains(Modifier.PUBLIC)) {
        members.add(text.replace("<init>", CLASS).replace(";", ""));
      } else {
        Check.yes("private: " + text, flags.contains(Modifier.PRIVATE));
      }
    }
    Set<String> due = faceOfDocument(document);
    Check.yes("a face in the document", due.size() > 1);
    for (String member : due) {
      Check.yes("the document's " + member, members.contains(member));
    }
    for (String member : members) {
      Check.yes("not the document's: " + member, due.contains(member));
    }
  }

  private static Set<Modifier> flagsOf(Tree member) {
    return member instanceof MethodTree method ? method.getModifiers().getFlags()
        : member instanceof VariableTree field ? field.getModifiers().getFlags()
        : member instanceof ClassTree inner ? inner.getModifiers().getFlags() : Set.of();
  }

  // Rules 8 and 11: which method calls which.

  private static void depths(Reader reader) {
    Set<String> open = new LinkedHashSet<>();
    Map<String, Integer> known = new HashMap<>();
    for (String method : reader.calls.keySet()) {
      int depth = depth(reader, method, open, known);
      rule(11, method + " goes " + depth + " calls deep", depth <= CALLS_DEEP);
    }
  }

  /** The longest way through calls from a method on, with it; a recursion counts once. */
  private static int depth(Reader reader, String method, Set<String> open, Map<String, Integer> known) {
    if (known.containsKey(method)) {
      return known.get(method);
    }
    if (!open.add(method)) {
      // A way back to an open method is a recursion: it must be a method that calls itself.
      String last = new ArrayList<>(open).get(open.size() - 1);
      rule(8, method + " and " + last + " call one another", last.equals(method));
      return 0;
    }
    int deepest = 0;
    for (String called : reader.calls.getOrDefault(method, Set.of())) {
      deepest = Math.max(deepest, depth(reader, called, open, known));
    }
    open.remove(method);
    known.put(method, deepest + 1);
    return deepest + 1;
  }

  /** Goes through the class's text once, with what the compiler knows of it. */
  private static final class Reader extends TreePathScanner<Void, Void> {
    private final Trees trees;
    private final CompilationUnitTree unit;
    private final Map<String, Set<String>> calls = new LinkedHashMap<>();
    private final Set<String> faceNames = new TreeSet<>();
    private int classes;
    private MethodTree method;
    private String methodName = "";
    private int loops;
    private int throwsHere;

    Reader(Trees trees, CompilationUnitTree unit) {
      this.trees = trees;
      this.unit = unit;
      for (Tree member : ((ClassTree) unit.getTypeDecls().get(0)).getMembers()) {
        if (member instanceof MethodTree m && m.getModifiers().getFlags().contains(Modifier.PUBLIC)) {
          faceNames.add(m.getName().toString());
        }
      }
      faceNames.remove("<init>");
    }

    private long lineOf(long place) {
      return unit.getLineMap().getLineNumber(place);
    }

    private String at(Tree tree) {
      return "line " + lineOf(trees.getSourcePositions().getStartPosition(unit, tree));
    }

    private Element elementOf(Tree tree) {
      return trees.getElement(trees.getPath(unit, tree));
    }

    private TypeMirror typeOf(Tree tree) {
      return trees.getTypeMirror(trees.getPath(unit, tree));
    }

    private void never(int number, Tree tree) {
      rule(number, at(tree) + ": " + tree.getKind(), false);
    }

    private static boolean isOwn(Element element) {
      return element.toString().startsWith(CLASS);
    }

    @Override
    public Void visitClass(ClassTree tree, Void nothing) {
      classes++;
      boolean outermost = getCurrentPath().getParentPath().getLeaf() == unit;
      Set<Modifier> flags = tree.getModifiers().getFlags();
      rule(2, at(tree) + ": a class inside is private and static", outermost
          || flags.containsAll(Set.of(Modifier.PRIVATE, Modifier.STATIC)) && method == null);
      int fields = 0;
      for (Tree member : tree.getMembers()) {
        boolean isStatic = flagsOf(member).contains(Modifier.STATIC);
        fields += member instanceof VariableTree && !isStatic ? 1 : 0;
        rule(5, at(member) + ": no initialiser block", member.getKind() != Tree.Kind.BLOCK);
        if (member instanceof VariableTree field && isStatic) {
          constant(field);
        }
      }
      rule(11, at(tree) + ": " + fields + " fields", fields <= FIELDS);
      return super.visitClass(tree, nothing);
    }

    private void constant(VariableTree field) {
      TypeMirror type = typeOf(field);
      boolean isArray = type instanceof ArrayType;
      boolean isWritten = field.getInitializer() != null
          && (isArray ? field.getInitializer() instanceof NewArrayTree : type.getKind().isPrimitive()
          || type.toString().equals("java.lang.String"));
      rule(5, at(field) + ": final", field.getModifiers().getFlags().contains(Modifier.FINAL));
      rule(5, at(field) + ": a constant written out", isWritten);
    }

    @Override
    public Void visitMethod(MethodTree tree, Void nothing) {
      method = tree;
      ExecutableElement element = (ExecutableElement) elementOf(tree);
      methodName = nameOf(element);
      calls.putIfAbsent(methodName, new LinkedHashSet<>());
      throwsHere = 0;
      boolean isFace = ((TypeElement) element.getEnclosingElement()).getQualifiedName().contentEquals(CLASS)
          && element.getModifiers().contains(Modifier.PUBLIC);
      rule(1, methodName + " bears a name of the face", isFace || !faceNames.contains(tree.getName().toString()));
      rule(6, methodName, !Set.of("equals", "hashCode", "toString").contains(tree.getName().toString()));
      rule(11, methodName + ": parameters", tree.getParameters().size() <= PARAMETERS);
      long first = lineOf(trees.getSourcePositions().getStartPosition(unit, tree));
      long last = lineOf(trees.getSourcePositions().getEndPosition(unit, tree));
      rule(11, methodName + ": lines", last - first + 1 <= LINES);
      super.visitMethod(tree, nothing);
      rule(6, "a constructor throws", throwsHere == 0 || element.getKind() != ElementKind.CONSTRUCTOR);
      method = null;
      return null;
    }

    private static String nameOf(ExecutableElement element) {
      return ((TypeElement) element.getEnclosingElement()).getQualifiedName() + "." + element;
    }

    @Override
    public Void visitVariable(VariableTree tree, Void nothing) {
      rule(3, at(tree) + ": " + typeOf(tree), isLeft(typeOf(tree), 0));
      return super.visitVariable(tree, nothing);
    }

    private static boolean isLeft(TypeMirror type, int dimensions) {
      if (type instanceof ArrayType array) {
        return isLeft(array.getComponentType(), dimensions + 1);
      }
      if (type.getKind().isPrimitive()) {
        return dimensions <= 2;
      }
      boolean own = type instanceof DeclaredType declared && isOwn(declared.asElement());
      return own && dimensions <= 1 || TYPES.contains(type.toString()) && dimensions == 0;
    }

    @Override
    public Void visitMethodInvocation(MethodInvocationTree tree, Void nothing) {
      ExecutableElement called = (ExecutableElement) elementOf(tree.getMethodSelect());
      String owner = ((TypeElement) called.getEnclosingElement()).getQualifiedName().toString();
      if (isOwn(called.getEnclosingElement())) {
        calls.get(methodName).add(nameOf(called));
        if (nameOf(called).equals(methodName)) {
          rule(8, at(tree) + ": a recursion carries its depth", carriesDepth(tree.getArguments()));
        }
      } else if (called.getKind() != ElementKind.CONSTRUCTOR) {
        rule(4, at(tree) + ": " + owner + "." + called,
            LIBRARY.getOrDefault(owner, Set.of()).contains(called.getSimpleName().toString()));
      }
      return super.visitMethodInvocation(tree, nothing);
    }

    private static boolean carriesDepth(List<? extends ExpressionTree> arguments) {
      for (ExpressionTree argument : arguments) {
        if (argument.toString().matches("\\w+ [-+] 1")) {
          return true;
        }
      }
      return false;
    }

    @Override
    public Void visitNewClass(NewClassTree tree, Void nothing) {
      Element made = elementOf(tree).getEnclosingElement();
      boolean thrown = getCurrentPath().getParentPath().getLeaf() instanceof ThrowTree;
      rule(2, at(tree) + ": no class without a name", tree.getClassBody() == null);
      rule(4, at(tree) + ": new " + made,
          thrown ? EXCEPTIONS.contains(made.toString()) : isOwn(made) || TYPES.contains(made.toString()));
      rule(12, at(tree) + ": new in a loop", loops == 0);
      if (isOwn(made) && method != null) {
        calls.get(methodName).add(nameOf((ExecutableElement) elementOf(tree)));
      }
      return super.visitNewClass(tree, nothing);
    }

    @Override
    public Void visitNewArray(NewArrayTree tree, Void nothing) {
      rule(12, at(tree) + ": a new array in a method", method == null);
      return super.visitNewArray(tree, nothing);
    }

    @Override
    public Void visitThrow(ThrowTree tree, Void nothing) {
      throwsHere++;
      boolean well = tree.getExpression() instanceof NewClassTree made && made.getArguments().size() <= 1
          && made.getArguments().stream().allMatch(text -> text instanceof LiteralTree);
      rule(6, at(tree) + ": throws a new exception", well);
      return super.visitThrow(tree, nothing);
    }

    @Override
    public Void visitBinary(BinaryTree tree, Void nothing) {
      boolean text = typeOf(tree).toString().equals("java.lang.String");
      rule(10, at(tree) + ": texts joined by +", !text);
      if (tree.getKind() == Tree.Kind.EQUAL_TO || tree.getKind() == Tree.Kind.NOT_EQUAL_TO) {
        rule(6, at(tree) + ": texts compared by ==",
            !TYPES.contains(typeOf(tree.getLeftOperand()).toString())
                && !TYPES.contains(typeOf(tree.getRightOperand()).toString()));
      }
      divisor(tree, tree.getRightOperand());
      return super.visitBinary(tree, nothing);
    }

    @Override
    public Void visitCompoundAssignment(CompoundAssignmentTree tree, Void nothing) {
      divisor(tree, tree.getExpression());
      return super.visitCompoundAssignment(tree, nothing);
    }

    /** A divisor is a number or constant, or is made at least 1 where it divides or in a variable just ahead. */
    private void divisor(Tree tree, ExpressionTree by) {
      if (Set.of(Tree.Kind.DIVIDE, Tree.Kind.REMAINDER, Tree.Kind.DIVIDE_ASSIGNMENT, Tree.Kind.REMAINDER_ASSIGNMENT)
          .contains(tree.getKind())) {
        Element element = by instanceof LiteralTree ? null : elementOf(by);
        boolean constant = element != null && element.getModifiers().contains(Modifier.FINAL);
        boolean atLeast1 = by.toString().startsWith("Math.max(1, ")
            || method.toString().contains("int " + by + " = Math.max(1, ");
        rule(7, at(tree) + ": divided by " + by, by instanceof LiteralTree || constant || atLeast1);
      }
    }

    // Rule 9: each loop has a condition; rule 6 and 2: what there is none of.

    private Void loop(Tree tree, ExpressionTree condition, Runnable inside) {
      rule(9, at(tree) + ": a loop with an end", condition != null && !condition.toString().contains("true"));
      loops++;
      inside.run();
      loops--;
      return null;
    }

    @Override
    public Void visitForLoop(ForLoopTree tree, Void nothing) {
      rule(9, at(tree) + ": a counter goes on", tree.getUpdate().size() > 0);
      return loop(tree, tree.getCondition(), () -> super.visitForLoop(tree, nothing));
    }

    @Override
    public Void visitWhileLoop(WhileLoopTree tree, Void nothing) {
      return loop(tree, tree.getCondition(), () -> super.visitWhileLoop(tree, nothing));
    }

    @Override
    public Void visitDoWhileLoop(DoWhileLoopTree tree, Void nothing) {
      return loop(tree, tree.getCondition(), () -> super.visitDoWhileLoop(tree, nothing));
    }

    @Override
    public Void visitEnhancedForLoop(EnhancedForLoopTree tree, Void nothing) {
      return loop(tree, tree.getExpression(), () -> super.visitEnhancedForLoop(tree, nothing));
    }

    @Override
    public Void visitLambdaExpression(LambdaExpressionTree tree, Void nothing) {
      never(2, tree);
      return null;
    }

    @Override
    public Void visitMemberReference(MemberReferenceTree tree, Void nothing) {
      never(2, tree);
      return null;
    }

    @Override
    public Void visitTry(TryTree tree, Void nothing) {
      never(6, tree);
      return super.visitTry(tree, nothing);
    }

    @Override
    public Void visitCatch(CatchTree tree, Void nothing) {
      never(6, tree);
      return super.visitCatch(tree, nothing);
    }

    @Override
    public Void visitSynchronized(SynchronizedTree tree, Void nothing) {
      never(6, tree);
      return super.visitSynchronized(tree, nothing);
    }

    @Override
    public Void visitAssert(AssertTree tree, Void nothing) {
      never(6, tree);
      return super.visitAssert(tree, nothing);
    }
  }
}
