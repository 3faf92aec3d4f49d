import com.sun.source.tree.ClassTree;
import com.sun.source.tree.CompilationUnitTree;
import com.sun.source.tree.MethodInvocationTree;
import com.sun.source.tree.MethodTree;
import com.sun.source.tree.NewArrayTree;
import com.sun.source.tree.NewClassTree;
import com.sun.source.tree.Tree;
import com.sun.source.tree.TypeCastTree;
import com.sun.source.util.JavacTask;
import com.sun.source.util.TreePathScanner;
import com.sun.source.util.Trees;
import java.io.IOException;
import java.nio.file.Path;
import java.util.ArrayList;
import java.util.List;
import java.util.Map;
import java.util.Set;
import java.util.TreeMap;
import java.util.TreeSet;
import javax.lang.model.element.Element;
import javax.lang.model.element.ExecutableElement;
import javax.lang.model.element.Modifier;
import javax.tools.JavaCompiler;
import javax.tools.StandardJavaFileManager;
import javax.tools.ToolProvider;

/** What javac knows of a source file: which method calls which, and where objects are made. */
final class SourceTree extends TreePathScanner<Void, Void> {
  final Set<String> open = new TreeSet<>();
  /** Methods that call one another in a circle. */
  final Set<String> circles = new TreeSet<>();
  final List<String> made = new ArrayList<>();
  final List<String> casts = new ArrayList<>();

  private final Map<String, Set<String>> calls = new TreeMap<>();
  private final Trees trees;
  private String method = "";
  private boolean making = false;

  private SourceTree(Trees trees) {
    this.trees = trees;
  }

  static SourceTree of(Path file) throws IOException {
    JavaCompiler compiler = ToolProvider.getSystemJavaCompiler();
    try (StandardJavaFileManager files = compiler.getStandardFileManager(null, null, null)) {
      JavacTask task = (JavacTask) compiler.getTask(null, files, null, List.of("-proc:none"), null,
          files.getJavaFileObjects(file));
      SourceTree tree = new SourceTree(Trees.instance(task));
      Iterable<? extends CompilationUnitTree> units = task.parse();
      task.analyze();
      for (CompilationUnitTree unit : units) {
        tree.scan(unit, null);
      }
      return tree;
    }
  }

  /** How many calls stand open at once from a method on, itself among them. */
  int depthFrom(String name) {
    return depthFrom(name, new ArrayList<>());
  }

  private int depthFrom(String name, List<String> above) {
    int again = above.indexOf(name);
    if (again >= 0) {
      circles.addAll(above.subList(again, above.size()));
      return 0;
    }
    above.add(name);
    int deepest = 0;
    for (String called : calls.getOrDefault(name, Set.of())) {
      deepest = Math.max(deepest, depthFrom(called, above));
    }
    above.remove(above.size() - 1);
    return 1 + deepest;
  }

  private static String name(Element called) {
    return called.getEnclosingElement().getSimpleName() + "." + called;
  }

  @Override
  public Void visitClass(ClassTree node, Void none) {
    String outer = method;
    method = "";
    making = true;
    super.visitClass(node, none);
    method = outer;
    return null;
  }

  @Override
  public Void visitMethod(MethodTree node, Void none) {
    ExecutableElement element = (ExecutableElement) trees.getElement(getCurrentPath());
    method = name(element);
    making = node.getReturnType() == null;
    if (element.getModifiers().contains(Modifier.PUBLIC) && !making) {
      open.add(method);
    }
    super.visitMethod(node, none);
    method = "";
    making = true;
    return null;
  }

  @Override
  public Void visitMethodInvocation(MethodInvocationTree node, Void none) {
    Element called = trees.getElement(getCurrentPath());
    calls.computeIfAbsent(method, m -> new TreeSet<>()).add(name(called));
    return super.visitMethodInvocation(node, none);
  }

  @Override
  public Void visitNewClass(NewClassTree node, Void none) {
    tellMaking(node);
    return super.visitNewClass(node, none);
  }

  @Override
  public Void visitNewArray(NewArrayTree node, Void none) {
    tellMaking(node);
    return super.visitNewArray(node, none);
  }

  @Override
  public Void visitTypeCast(TypeCastTree node, Void none) {
    if (!node.getType().getKind().equals(Tree.Kind.PRIMITIVE_TYPE)) {
      casts.add(method + ": " + node);
    }
    return super.visitTypeCast(node, none);
  }

  private void tellMaking(Tree node) {
    if (!making) {
      made.add(method + ": " + node);
    }
  }
}
