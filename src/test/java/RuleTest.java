import com.sun.source.tree.AssertTree;
import com.sun.source.tree.BlockTree;
import com.sun.source.tree.CatchTree;
import com.sun.source.tree.ClassTree;
import com.sun.source.tree.CompilationUnitTree;
import com.sun.source.tree.DoWhileLoopTree;
import com.sun.source.tree.ForLoopTree;
import com.sun.source.tree.ImportTree;
import com.sun.source.tree.LambdaExpressionTree;
import com.sun.source.tree.MemberReferenceTree;
import com.sun.source.tree.MethodInvocationTree;
import com.sun.source.tree.MethodTree;
import com.sun.source.tree.NewArrayTree;
import com.sun.source.tree.NewClassTree;
import com.sun.source.tree.SynchronizedTree;
import com.sun.source.tree.ThrowTree;
import com.sun.source.tree.Tree;
import com.sun.source.tree.TryTree;
import com.sun.source.tree.VariableTree;
import com.sun.source.tree.WhileLoopTree;
import com.sun.source.util.JavacTask;
import com.sun.source.util.SourcePositions;
import com.sun.source.util.TreePath;
import com.sun.source.util.TreePathScanner;
import com.sun.source.util.Trees;
import java.nio.file.Path;
import java.util.List;
import java.util.Map;
import java.util.Set;
import java.util.TreeMap;
import java.util.TreeSet;
import javax.lang.model.element.Element;
import javax.lang.model.element.ExecutableElement;
import javax.lang.model.element.Modifier;
import javax.lang.model.element.TypeElement;
import javax.lang.model.element.VariableElement;
import javax.tools.JavaCompiler;
import javax.tools.StandardJavaFileManager;
import javax.tools.ToolProvider;

/**
 * The rules of ../shared/LANGUAGE.md that can be seen on javac's tree of the file, each complaint with its rule's number.
 * Where a rule leaves more than the class uses (while loops, recursion, objects made by calls), the test is stricter: who
 * needs more changes it, and looks at the rule first.
 */
public final class RuleTest extends TreePathScanner<Void, Void> {
  private static final Set<String> LIBRARY = Set.of("java.lang.Math.max", "java.lang.Math.min", "java.lang.Math.abs",
      "java.lang.Integer.bitCount", "java.lang.System.arraycopy", "java.lang.Object.<init>");
  private static final Set<String> TYPES = Set.of("int", "long", "boolean", "int[]");
  private static final int MOST_PARAMETERS = 7, MOST_LINES = 60, DEEPEST = 8, MOST_CLASSES = 12, MOST_FIELDS = 20;

  private static int wrong = 0;

  private final Trees trees;
  private final CompilationUnitTree unit;
  private final Map<String, Set<String>> calls = new TreeMap<>();
  private final Set<String> faceNames = new TreeSet<>();
  private final Set<String> otherNames = new TreeSet<>();
  private int classes = 0;
  private String method = "";

  private RuleTest(Trees trees, CompilationUnitTree unit) {
    this.trees = trees;
    this.unit = unit;
  }

  private static void complain(String what) {
    wrong++;
    System.out.println(what);
  }

  private long line(long position) {
    return unit.getLineMap().getLineNumber(position);
  }

  private void refuse(int rule, Tree tree, String what) {
    long at = line(trees.getSourcePositions().getStartPosition(unit, tree));
    complain("rule " + rule + ", line " + at + ": " + what);
  }

  private Element element() {
    return trees.getElement(getCurrentPath());
  }

  private static boolean isOwn(String type) {
    return type.startsWith("JealousChoir");
  }

  private static String nameOf(ExecutableElement called) {
    return ((TypeElement) called.getEnclosingElement()).getQualifiedName() + "." + called.getSimpleName();
  }

  /** Overloads are told apart, so that none of them looks like a recursion. */
  private static String keyOf(ExecutableElement called) {
    return nameOf(called) + called.getParameters().stream().map(p -> p.asType().toString()).toList();
  }

  @Override
  public Void visitImport(ImportTree tree, Void none) {
    refuse(4, tree, "an import");
    return null;
  }

  @Override
  public Void visitClass(ClassTree tree, Void none) {
    Element own = element();
    boolean outer = getCurrentPath().getParentPath().getLeaf() instanceof CompilationUnitTree;
    Set<Modifier> modifiers = own.getModifiers();
    classes++;
    if (outer && !modifiers.equals(Set.of(Modifier.PUBLIC, Modifier.FINAL))) refuse(1, tree, "the class is not public and final");
    if (!outer && !modifiers.contains(Modifier.STATIC)) refuse(2, tree, "a class inside that is not static");
    if (!outer && (modifiers.contains(Modifier.PUBLIC) || modifiers.contains(Modifier.PROTECTED))) refuse(1, tree, "a class inside that can be seen");
    if (!(getCurrentPath().getParentPath().getLeaf() instanceof ClassTree) && !outer) refuse(2, tree, "a local or anonymous class");
    int fields = 0;
    for (Tree member : tree.getMembers()) {
      if (member instanceof BlockTree b && b.isStatic()) refuse(5, member, "a static initialiser");
      if (member instanceof VariableTree v && !v.getModifiers().getFlags().contains(Modifier.STATIC)) fields++;
    }
    if (fields > MOST_FIELDS) refuse(11, tree, fields + " fields");
    return super.visitClass(tree, none);
  }

  @Override
  public Void visitMethod(MethodTree tree, Void none) {
    ExecutableElement own = (ExecutableElement) element();
    boolean face = own.getModifiers().contains(Modifier.PUBLIC);
    if (!tree.getName().contentEquals("<init>")) (face ? faceNames : otherNames).add(tree.getName().toString());
    if (!face && !own.getModifiers().contains(Modifier.PRIVATE) && trees.getSourcePositions().getEndPosition(unit, tree) >= 0) {
      refuse(1, tree, own + " is neither public nor private");
    }
    SourcePositions at = trees.getSourcePositions();
    long lines = line(Math.max(at.getEndPosition(unit, tree), 0)) - line(at.getStartPosition(unit, tree)) + 1;
    if (lines > MOST_LINES) refuse(11, tree, own + " has " + lines + " lines");
    if (tree.getParameters().size() > MOST_PARAMETERS) refuse(11, tree, own + " takes " + tree.getParameters().size());
    method = keyOf(own);
    calls.computeIfAbsent(method, m -> new TreeSet<>());
    super.visitMethod(tree, none);
    method = "";
    return null;
  }

  private void called(ExecutableElement called, Tree tree) {
    String name = nameOf(called);
    if (!isOwn(name)) {
      if (!LIBRARY.contains(name)) refuse(4, tree, name);
    } else if (!method.isEmpty()) {
      calls.get(method).add(keyOf(called));
    }
  }

  @Override
  public Void visitMethodInvocation(MethodInvocationTree tree, Void none) {
    called((ExecutableElement) element(), tree);
    return super.visitMethodInvocation(tree, none);
  }

  private boolean isInConstructorOrField() {
    return method.isEmpty() || method.contains(".<init>");
  }

  @Override
  public Void visitNewClass(NewClassTree tree, Void none) {
    if (tree.getClassBody() != null) refuse(2, tree, "an anonymous class");
    if (!isInConstructorOrField()) refuse(12, tree, "an object made by a call");
    called((ExecutableElement) element(), tree);
    return super.visitNewClass(tree, none);
  }

  @Override
  public Void visitNewArray(NewArrayTree tree, Void none) {
    if (!isInConstructorOrField()) refuse(12, tree, "an array made by a call");
    return super.visitNewArray(tree, none);
  }

  @Override
  public Void visitVariable(VariableTree tree, Void none) {
    VariableElement own = (VariableElement) element();
    String type = own.asType().toString();
    if (!isOwn(type) && !TYPES.contains(type)) refuse(3, tree, "a variable of type " + type);
    if (own.getKind().isField()) {
      Set<Modifier> modifiers = own.getModifiers();
      if (modifiers.contains(Modifier.STATIC) && !modifiers.contains(Modifier.FINAL)) refuse(5, tree, own + " is static and not final");
      boolean constant = modifiers.contains(Modifier.PUBLIC) && own.getConstantValue() != null;
      if (!modifiers.contains(Modifier.PRIVATE) && !constant) refuse(1, tree, own + " can be seen");
    }
    return super.visitVariable(tree, none);
  }

  @Override
  public Void visitForLoop(ForLoopTree tree, Void none) {
    if (tree.getCondition() == null || tree.getUpdate().isEmpty()) refuse(9, tree, "a loop whose end can't be seen");
    return super.visitForLoop(tree, none);
  }

  @Override
  public Void visitWhileLoop(WhileLoopTree tree, Void none) {
    refuse(9, tree, "a while");
    return super.visitWhileLoop(tree, none);
  }

  @Override
  public Void visitDoWhileLoop(DoWhileLoopTree tree, Void none) {
    refuse(9, tree, "a do");
    return super.visitDoWhileLoop(tree, none);
  }

  @Override
  public Void visitLambdaExpression(LambdaExpressionTree tree, Void none) {
    refuse(2, tree, "a lambda");
    return null;
  }

  @Override
  public Void visitMemberReference(MemberReferenceTree tree, Void none) {
    refuse(2, tree, "a method reference");
    return null;
  }

  @Override
  public Void visitThrow(ThrowTree tree, Void none) {
    refuse(6, tree, "a throw");
    return null;
  }

  @Override
  public Void visitTry(TryTree tree, Void none) {
    refuse(6, tree, "a try");
    return super.visitTry(tree, none);
  }

  @Override
  public Void visitCatch(CatchTree tree, Void none) {
    refuse(6, tree, "a catch");
    return super.visitCatch(tree, none);
  }

  @Override
  public Void visitSynchronized(SynchronizedTree tree, Void none) {
    refuse(6, tree, "a synchronized");
    return super.visitSynchronized(tree, none);
  }

  @Override
  public Void visitAssert(AssertTree tree, Void none) {
    refuse(6, tree, "an assert");
    return null;
  }

  /** How many calls stand open at most, this one among them; a way round is told once and not gone. */
  private int depth(String from, List<String> open) {
    if (open.contains(from)) {
      complain("rule 8: a recursion, " + open + " " + from);
      return 0;
    }
    List<String> now = new java.util.ArrayList<>(open);
    now.add(from);
    int most = 0;
    for (String to : calls.getOrDefault(from, Set.of())) most = Math.max(most, depth(to, now));
    return most + 1;
  }

  private void wholeFile() {
    if (classes > MOST_CLASSES) complain("rule 11: " + classes + " classes");
    for (String name : otherNames) if (faceNames.contains(name)) complain("rule 1: " + name + " bears the name of a public one");
    for (String key : calls.keySet()) {
      if (depth(key, List.of()) > DEEPEST) complain("rule 11: " + key + " goes " + depth(key, List.of()) + " deep");
    }
    if (!calls.containsKey("JealousChoir.share[int, boolean]")) complain("the file's methods were not found: " + calls.keySet());
  }

  public static void main(String[] args) throws Exception {
    JavaCompiler compiler = ToolProvider.getSystemJavaCompiler();
    StandardJavaFileManager files = compiler.getStandardFileManager(null, null, null);
    Path source = Path.of(args.length > 0 ? args[0] : "src/main/java/JealousChoir.java");
    JavacTask task = (JavacTask) compiler.getTask(null, files, null, List.of("-proc:none"), null, files.getJavaFileObjects(source));
    CompilationUnitTree unit = task.parse().iterator().next();
    task.analyze();
    RuleTest test = new RuleTest(Trees.instance(task), unit);
    if (unit.getPackageName() != null) complain("a package line");
    if (unit.getTypeDecls().size() != 1) complain("rule 1: " + unit.getTypeDecls().size() + " classes beside each other");
    test.scan(new TreePath(unit), null);
    test.wholeFile();
    System.out.println(wrong == 0 ? "RuleTest: all is as due" : "RuleTest: " + wrong + " things are not as due");
    if (wrong != 0) System.exit(1);
  }
}
