import java.lang.reflect.Constructor;
import java.lang.reflect.Field;
import java.lang.reflect.Method;
import java.lang.reflect.Modifier;
import java.nio.charset.StandardCharsets;
import java.nio.file.Files;
import java.nio.file.Path;
import java.util.Set;
import java.util.TreeSet;
import java.util.regex.Matcher;
import java.util.regex.Pattern;

/** The face that the document gives, and those rules of LANGUAGE.md that a test can look at. */
public final class LanguageTest {
  private static final Path SOURCE = Path.of("src/main/java/TwinLights.java");
  private static final Path DOCUMENT = Path.of("../shared/DOC.md");

  public static void main(String[] args) throws Exception {
    theFace();
    nothingElseIsSeen();
    theClassesInside();
    wordsThatAreLeftOut();
    theLibrary();
    methodsStayShort();
    whatTheTreeTells();
    Due.end();
  }

  private static void theFace() throws Exception {
    String document = Files.readString(DOCUMENT);
    int from = document.indexOf("public final class TwinLights {");
    String face = document.substring(from, document.indexOf("```", from));
    Set<String> due = new TreeSet<>();
    Matcher m = Pattern.compile("public (int|long) (\\w+)\\(([^)]*)\\);").matcher(face);
    while (m.find()) {
      int taken = m.group(3).isEmpty() ? 0 : m.group(3).split(",").length;
      due.add(m.group(1) + " " + m.group(2) + " " + taken);
    }
    Set<String> got = new TreeSet<>();
    for (Method method : TwinLights.class.getDeclaredMethods()) {
      if (Modifier.isPublic(method.getModifiers())) {
        got.add(method.getReturnType() + " " + method.getName() + " "
            + method.getParameterCount());
        for (Class<?> type : method.getParameterTypes()) {
          Due.same(method.getName() + " takes", type.getName(), "int");
        }
      }
    }
    Due.same("the face", got.toString(), due.toString());
    Due.is("methods of the face", due.size(), 42);
    int modifiers = TwinLights.class.getModifiers();
    Due.is("public", Modifier.isPublic(modifiers) ? 1 : 0, 1);
    Due.is("final", Modifier.isFinal(modifiers) ? 1 : 0, 1);
    Constructor<?>[] made = TwinLights.class.getDeclaredConstructors();
    Due.is("constructors", made.length, 1);
    Due.is("what the constructor takes", made[0].getParameterCount(), 0);
  }

  private static void nothingElseIsSeen() {
    Set<String> face = new TreeSet<>();
    Set<String> hidden = new TreeSet<>();
    for (Method method : TwinLights.class.getDeclaredMethods()) {
      boolean open = Modifier.isPublic(method.getModifiers());
      boolean closed = Modifier.isPrivate(method.getModifiers());
      Due.is(method.getName() + " is public or private", open || closed ? 1 : 0, 1);
      (open ? face : hidden).add(method.getName());
    }
    for (Class<?> inside : TwinLights.class.getDeclaredClasses()) {
      for (Method method : inside.getDeclaredMethods()) {
        hidden.add(method.getName());
      }
    }
    hidden.retainAll(face);
    Due.same("methods with a name of the face", hidden.toString(), "[]");
    int ownFields = 0;
    for (Field field : TwinLights.class.getDeclaredFields()) {
      Due.is(field.getName() + " is private", Modifier.isPrivate(field.getModifiers()) ? 1 : 0, 1);
      ownFields += Modifier.isStatic(field.getModifiers()) ? 0 : 1;
    }
    Due.is("some twenty fields at the most", ownFields <= 20 ? 1 : 0, 1);
  }

  private static void theClassesInside() {
    Class<?>[] inside = TwinLights.class.getDeclaredClasses();
    Due.is("some twelve classes at the most", inside.length + 1 <= 12 ? 1 : 0, 1);
    for (Class<?> one : inside) {
      int modifiers = one.getModifiers();
      Due.is(one + " is static", Modifier.isStatic(modifiers) ? 1 : 0, 1);
      Due.is(one + " is not public", Modifier.isPublic(modifiers) ? 1 : 0, 0);
      Due.is(one + " is not protected", Modifier.isProtected(modifiers) ? 1 : 0, 0);
      for (Field field : one.getDeclaredFields()) {
        boolean fixed = Modifier.isFinal(field.getModifiers());
        boolean stands = !Modifier.isStatic(field.getModifiers()) || fixed;
        Due.is(field + " is no static state", stands ? 1 : 0, 1);
      }
    }
  }

  /** The source without its comments and texts. */
  private static String code() throws Exception {
    String source = Files.readString(SOURCE, StandardCharsets.US_ASCII);
    return source.replaceAll("(?s)/\\*.*?\\*/", " ").replaceAll("//[^\n]*", " ")
        .replaceAll("\"[^\"\n]*\"", "\"\"").replaceAll("'[^'\n]*'", "' '");
  }

  private static void wordsThatAreLeftOut() throws Exception {
    String code = code();
    String[] words = {
      "throw", "throws", "try", "catch", "finally", "synchronized", "assert", "volatile",
      "transient", "native", "import", "package", "protected", "equals", "hashCode", "toString",
      "var", "yield", "Object", "Exception", "Thread", "Random", "double", "float",
    };
    for (String word : words) {
      boolean there = Pattern.compile("\\b" + word + "\\b").matcher(code).find();
      Due.is("the word " + word, there ? 1 : 0, 0);
    }
    for (String sign : new String[] {"->", "::", "@", "static {", "\t"}) {
      Due.is("the sign " + sign, code.contains(sign) ? 1 : 0, 0);
    }
  }

  private static void theLibrary() throws Exception {
    Set<String> used = new TreeSet<>();
    Matcher m = Pattern.compile("\\b(Integer|Long|Math|System|Arrays|String)\\.(\\w+)")
        .matcher(code());
    while (m.find()) {
      used.add(m.group());
    }
    used.removeAll(Set.of("Integer.bitCount", "Math.min", "Math.max", "System.arraycopy"));
    Due.same("what is used of the library besides", used.toString(), "[]");
  }

  private static void methodsStayShort() throws Exception {
    int begun = 0;
    int line = 0;
    for (String text : Files.readAllLines(SOURCE)) {
      line++;
      if (text.matches(" {2,4}[\\w].*\\) \\{")) {
        begun = line;
        int taken = text.substring(text.indexOf('(')).split(",").length;
        Due.is("parameters in line " + line, taken <= 7 ? 1 : 0, 1);
      }
      if (text.matches(" {2,4}\\}")) {
        Due.is("lines up to line " + line, begun == 0 || line - begun <= 60 ? 1 : 0, 1);
        begun = 0;
      }
      Due.is("the length of line " + line, text.length() <= 100 ? 1 : 0, 1);
    }
  }

  /** Rules 8, 11 and 12, and what README.md says of the objects that a call makes. */
  private static void whatTheTreeTells() throws Exception {
    SourceTree tree = SourceTree.of(SOURCE);
    Due.is("methods of the face in the tree", tree.open.size(), 42);
    for (String name : tree.open) {
      Due.is(name + " goes at most eight deep", tree.depthFrom(name) <= 8 ? 1 : 0, 1);
    }
    // These two carry their depth, which ends at twelve ticks.
    Due.same("methods that call one another", tree.circles.toString(),
        "[PatternSearch.tryBit(int,int), PatternSearch.tryFrom(int,int)]");
    Due.same("objects that calls make", tree.made.toString(), "[]");
    Due.same("casts among objects", tree.casts.toString(), "[]");
  }
}
