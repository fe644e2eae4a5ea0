import com.sun.source.tree.BinaryTree;
import com.sun.source.tree.ClassTree;
import com.sun.source.tree.CompilationUnitTree;
import com.sun.source.tree.LambdaExpressionTree;
import com.sun.source.tree.MemberReferenceTree;
import com.sun.source.tree.MethodInvocationTree;
import com.sun.source.tree.MethodTree;
import com.sun.source.tree.NewClassTree;
import com.sun.source.tree.ThrowTree;
import com.sun.source.tree.TryTree;
import com.sun.source.tree.AssertTree;
import com.sun.source.tree.SynchronizedTree;
import com.sun.source.tree.VariableTree;
import com.sun.source.util.JavacTask;
import com.sun.source.util.TreePath;
import com.sun.source.util.TreePathScanner;
import com.sun.source.util.Trees;
import java.nio.file.Path;
import java.util.HashMap;
import java.util.HashSet;
import java.util.List;
import java.util.Map;
import java.util.Set;
import java.util.TreeSet;
import javax.lang.model.element.Element;
import javax.lang.model.element.ExecutableElement;
import javax.lang.model.element.Modifier;
import javax.tools.JavaCompiler;
import javax.tools.StandardJavaFileManager;
import javax.tools.ToolProvider;

/** What can be told of LANGUAGE.md by reading the program's tree: rules 1, 2, 4, 5, 6, 8 and 11. */
public final class LanguageTest {
  private static final Set<String> FACE = Set.of("feed", "house", "sort", "rule", "fault", "told", "pays", "next", "scrapes", "cost", "in",
      "takes", "bar", "fixed", "scrape", "judge", "standing", "odds", "even", "year", "clear", "think", "buy", "keepRung", "leave", "pad",
      "setting", "seed", "lives", "count", "keep", "goBack");
  private static final Set<String> LIBRARY = Set.of("java.lang.Math.min", "java.lang.Math.max", "java.lang.String.length",
      "java.lang.String.charAt", "java.lang.Object.<init>");

  private final Set<String> faults = new TreeSet<>();
  private final Map<ExecutableElement, Set<ExecutableElement>> calls = new HashMap<>();
  private final Set<String> publicMethods = new HashSet<>();
  private int classes = 0;

  public static void main(String[] args) throws Exception {
    LanguageTest test = new LanguageTest();
    test.read();
    for (String fault : test.faults) System.out.println(fault);
    System.out.println("LanguageTest: " + test.faults.size() + " faults; calls go " + test.deepest() + " deep");
    if (!test.faults.isEmpty()) System.exit(1);
  }

  private void read() throws Exception {
    JavaCompiler compiler = ToolProvider.getSystemJavaCompiler();
    try (StandardJavaFileManager files = compiler.getStandardFileManager(null, null, null)) {
      JavacTask task = (JavacTask) compiler.getTask(null, files, null, List.of("-proc:none"), null,
          files.getJavaFileObjects(Path.of("src/main/java/RungHouse.java")));
      Trees trees = Trees.instance(task);
      for (CompilationUnitTree unit : task.parse()) {
        task.analyze();
        if (!unit.getImports().isEmpty()) faults.add("imports: none is needed");
        if (unit.getPackage() != null) faults.add("rule 0: a package line");
        new Scanner(trees, unit).scan(unit, null);
      }
    }
    if (classes > 12) faults.add("rule 11: " + classes + " classes");
    if (!publicMethods.equals(FACE)) faults.add("rule 1: the face is " + publicMethods);
    if (deepest() > 8) faults.add("rule 11: calls go " + deepest() + " deep");
  }

  private int deepest() {
    int most = 0;
    for (ExecutableElement e : calls.keySet()) most = Math.max(most, depth(e, 1));
    return most;
  }

  /** Recursion would never end here, so it is a fault from forty on: the program needs none. */
  private int depth(ExecutableElement e, int at) {
    if (at > 40) return at;
    int most = at;
    for (ExecutableElement to : calls.getOrDefault(e, Set.of())) most = Math.max(most, depth(to, at + 1));
    return most;
  }

  private final class Scanner extends TreePathScanner<Void, Void> {
    private final Trees trees;
    private final CompilationUnitTree unit;
    private ExecutableElement within = null;

    Scanner(Trees trees, CompilationUnitTree unit) { this.trees = trees; this.unit = unit; }

    private long line(com.sun.source.tree.Tree t) { return unit.getLineMap().getLineNumber(trees.getSourcePositions().getStartPosition(unit, t)); }
    private long lastLine(com.sun.source.tree.Tree t) { return unit.getLineMap().getLineNumber(trees.getSourcePositions().getEndPosition(unit, t)); }
    private void fault(com.sun.source.tree.Tree t, String what) { faults.add("line " + line(t) + ": " + what); }

    @Override public Void visitClass(ClassTree t, Void v) {
      classes++;
      Set<Modifier> m = t.getModifiers().getFlags();
      boolean top = t.getSimpleName().contentEquals("RungHouse");
      if (top && !m.equals(Set.of(Modifier.PUBLIC, Modifier.FINAL))) fault(t, "rule 1: the class is public and final");
      if (!top && !m.contains(Modifier.STATIC)) fault(t, "rule 2: a class that is not static");
      if (!top && (m.contains(Modifier.PUBLIC) || m.contains(Modifier.PROTECTED))) fault(t, "rule 1: a class that is seen");
      int fields = 0;
      for (var member : t.getMembers()) {
        if (!(member instanceof VariableTree f)) continue;
        Set<Modifier> fm = f.getModifiers().getFlags();
        if (!fm.contains(Modifier.STATIC)) fields++;
        else if (!fm.contains(Modifier.FINAL)) fault(f, "rule 5: a static field that is not final");
        boolean constant = fm.contains(Modifier.PUBLIC) && fm.contains(Modifier.STATIC);
        if (top && !fm.contains(Modifier.PRIVATE) && !constant) fault(f, "rule 1: a field that is seen");
      }
      if (fields > 20) fault(t, "rule 11: " + fields + " fields");
      return super.visitClass(t, v);
    }
    @Override public Void visitMethod(MethodTree t, Void v) {
      ExecutableElement was = within;
      within = (ExecutableElement) trees.getElement(getCurrentPath());
      calls.putIfAbsent(within, new HashSet<>());
      boolean isPublic = t.getModifiers().getFlags().contains(Modifier.PUBLIC);
      boolean isPrivate = t.getModifiers().getFlags().contains(Modifier.PRIVATE);
      String name = t.getName().toString();
      boolean ofTop = within.getEnclosingElement().getSimpleName().contentEquals("RungHouse");
      if (isPublic && !name.equals("<init>")) publicMethods.add(name);
      if (!isPublic && FACE.contains(name)) fault(t, "rule 1: a method bears the name of a public one");
      if (ofTop && !isPublic && !isPrivate) fault(t, "rule 1: a method that is seen");
      if (!isPublic && t.getParameters().size() > 7) fault(t, "rule 11: parameters");
      if (lastLine(t) - line(t) > 60) fault(t, "rule 11: a long method");
      super.visitMethod(t, v);
      within = was;
      return null;
    }
    @Override public Void visitMethodInvocation(MethodInvocationTree t, Void v) {
      call(t, trees.getElement(new TreePath(getCurrentPath(), t.getMethodSelect())));
      return super.visitMethodInvocation(t, v);
    }
    @Override public Void visitNewClass(NewClassTree t, Void v) {
      if (t.getClassBody() != null) fault(t, "rule 2: an anonymous class");
      call(t, trees.getElement(getCurrentPath()));
      return super.visitNewClass(t, v);
    }
    private void call(com.sun.source.tree.Tree t, Element e) {
      if (!(e instanceof ExecutableElement x)) { fault(t, "a call of nothing known"); return; }
      String owner = x.getEnclosingElement().toString();
      if (!owner.startsWith("RungHouse") && !LIBRARY.contains(owner + "." + x.getSimpleName())) fault(t, "rule 4: " + owner + "." + x.getSimpleName());
      if (within != null && owner.startsWith("RungHouse")) calls.get(within).add(x);
    }
    @Override public Void visitThrow(ThrowTree t, Void v) { fault(t, "rule 6: throw"); return super.visitThrow(t, v); }
    @Override public Void visitTry(TryTree t, Void v) { fault(t, "rule 6: try"); return super.visitTry(t, v); }
    @Override public Void visitAssert(AssertTree t, Void v) { fault(t, "rule 6: assert"); return super.visitAssert(t, v); }
    @Override public Void visitSynchronized(SynchronizedTree t, Void v) { fault(t, "rule 6: synchronized"); return super.visitSynchronized(t, v); }
    @Override public Void visitLambdaExpression(LambdaExpressionTree t, Void v) { fault(t, "rule 2: lambda"); return super.visitLambdaExpression(t, v); }
    @Override public Void visitMemberReference(MemberReferenceTree t, Void v) { fault(t, "rule 2: method reference"); return super.visitMemberReference(t, v); }
    @Override public Void visitBinary(BinaryTree t, Void v) {
      var type = trees.getTypeMirror(getCurrentPath());
      if (type != null && type.toString().equals("java.lang.String")) fault(t, "rule 10: texts joined by +");
      return super.visitBinary(t, v);
    }
  }
}
