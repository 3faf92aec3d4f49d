import java.io.IOException;
import java.lang.reflect.Method;
import java.lang.reflect.Modifier;
import java.nio.file.Files;
import java.nio.file.Path;
import java.util.List;
import java.util.Map;
import java.util.Set;
import java.util.TreeMap;
import java.util.TreeSet;
import java.util.regex.Matcher;
import java.util.regex.Pattern;
import java.util.stream.Stream;

/** README.md: its calls answer as it says, all of the face is there, and it names all tests. */
public final class ReadmeTest {
  private static final Path README = Path.of("README.md");
  private static final Path TESTS = Path.of("src/test/java");
  private static final String MAKING = "TwinLights x = new TwinLights();";
  private static final Pattern CALL =
      Pattern.compile("x\\.(\\w+)\\(([^()]*)\\); +// (-?\\d+)(: .+)?");
  private static final String[] FINDINGS =
      {"BEYOND", "FULL", "KIND", "NONE", "STATE", "MISSING", "SIZE"};

  private static final Map<String, Method> FACE = new TreeMap<>();
  private static final Set<String> SHOWN = new TreeSet<>();
  private static TwinLights x;
  private static Model model;

  public static void main(String[] args) throws Exception {
    for (Method method : TwinLights.class.getDeclaredMethods()) {
      if (Modifier.isPublic(method.getModifiers())) {
        FACE.put(method.getName(), method);
      }
    }
    List<String> lines = Files.readAllLines(README);
    theCallsAnswerSo(lines);
    Due.same("the calls that README.md shows", SHOWN.toString(), FACE.keySet().toString());
    theTableOfFindings(lines);
    theTestsThatThereAre(lines);
    theFilesThatItNames(lines);
    Due.end();
  }

  private static void theCallsAnswerSo(List<String> lines) throws Exception {
    boolean inside = false;
    for (int i = 0; i < lines.size(); i++) {
      String text = lines.get(i);
      Due.under = "README.md, line " + (i + 1) + ": ";
      if (text.startsWith("```")) {
        inside = !inside;
        Due.is("a block begins with its language", text.equals(inside ? "```java" : "```") ? 1 : 0,
            1);
        x = null;
      } else if (inside && text.equals(MAKING)) {
        x = new TwinLights();
        model = new Model();
      } else if (inside) {
        aCallAnswersSo(text);
      }
    }
    Due.under = "";
    Due.is("README.md ends inside a block", inside ? 1 : 0, 0);
  }

  private static void aCallAnswersSo(String text) throws Exception {
    Matcher m = CALL.matcher(text);
    Method called = m.matches() ? FACE.get(m.group(1)) : null;
    Due.is(text + " is a call with its answer", called != null && x != null ? 1 : 0, 1);
    if (called == null || x == null) {
      return;
    }
    int[] given = numbers(m.group(2));
    Due.is("how many numbers " + text + " gives", given.length, called.getParameterCount());
    if (given.length != called.getParameterCount()) {
      return;
    }
    SHOWN.add(m.group(1));
    Object[] boxed = new Object[given.length];
    for (int i = 0; i < given.length; i++) {
      boxed[i] = given[i];
    }
    String call = m.group(1) + "(" + m.group(2) + ")";
    long due = Long.parseLong(m.group(3));
    Due.is(call, ((Number) called.invoke(x, boxed)).longValue(), due);
    Due.is(call + " of the Model", model.call(m.group(1), given), due);
  }

  private static int[] numbers(String list) {
    if (list.isEmpty()) {
      return new int[0];
    }
    return Stream.of(list.split(", ")).mapToInt(Integer::decode).toArray();
  }

  private static void theTableOfFindings(List<String> lines) {
    Pattern row = Pattern.compile("\\| (-?\\d+) \\| ([A-Z]+) \\| (\\d+) \\| .+ \\|");
    int rows = 0;
    for (String text : lines) {
      Matcher m = row.matcher(text);
      if (m.matches()) {
        Due.same("finding " + rows, m.group(2), rows < FINDINGS.length ? FINDINGS[rows] : "none");
        Due.is("the answer of " + m.group(2), Long.parseLong(m.group(1)), Due.BEYOND - rows);
        Due.is("status() of " + m.group(2), Long.parseLong(m.group(3)), rows);
        rows++;
      }
    }
    Due.is("findings that README.md tells", rows, FINDINGS.length);
  }

  /** Each class of a test that README.md names is there, and it names each that .ci/run runs. */
  private static void theTestsThatThereAre(List<String> lines) throws IOException {
    Set<String> named = new TreeSet<>();
    for (String text : lines) {
      Matcher m = Pattern.compile("`(\\w+Test)`").matcher(text);
      while (m.find()) {
        named.add(m.group(1));
      }
    }
    Set<String> there = new TreeSet<>();
    try (Stream<Path> files = Files.list(TESTS)) {
      files.map(file -> file.getFileName().toString()).filter(name -> name.endsWith("Test.java"))
          .forEach(name -> there.add(name.substring(0, name.length() - ".java".length())));
    }
    Due.same("the tests that README.md names", named.toString(), there.toString());
  }

  private static void theFilesThatItNames(List<String> lines) {
    String all = String.join("\n", lines);
    String[] files = {".ci/run", "src/main/java/TwinLights.java", "../shared/DOC.md",
        "../shared/LANGUAGE.md", "../shared/tests"};
    for (String file : files) {
      Due.is("README.md names " + file, all.contains(file) ? 1 : 0, 1);
      Due.is(file + " is there", Files.exists(Path.of(file)) ? 1 : 0, 1);
    }
    Due.is(".ci/run can be run", Files.isExecutable(Path.of(".ci/run")) ? 1 : 0, 1);
  }
}
