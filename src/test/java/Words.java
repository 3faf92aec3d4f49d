import java.io.IOException;
import java.io.UncheckedIOException;
import java.nio.file.Files;
import java.nio.file.Path;
import java.util.HashMap;
import java.util.Map;

/**
 * The document's own words, each with the test of them: words that don't stand in the document as
 * they are told here are wrong, and so are promises or terms of which something is never told.
 */
final class Words {
  /** What the interface says ahead of its calls. */
  static final int INTERFACE = -1;
  static final int TERMS = 0;
  static final int PROMISES = 43;

  private static final Path DOCUMENT = Path.of("../shared/DOC.md");
  private static final Map<Integer, String> SECTIONS = new HashMap<>();
  private static final Map<Integer, boolean[]> SAID = new HashMap<>();

  private Words() {}

  /** The test of some words of a promise, by its number, or of the terms. */
  static void of(int promise, String words, Runnable test) {
    saying(promise, words);
    int before = Due.asked();
    Due.under = name(promise) + ", \"" + words + "\": ";
    test.run();
    Due.is("the answers asked for", Due.asked() > before ? 1 : 0, 1);
    Due.under = "";
  }

  /** Words that name nothing that a call could be asked about beyond what other words name. */
  static void without(int promise, String words) {
    saying(promise, words);
  }

  private static void saying(int promise, String words) {
    String section = section(promise);
    int place = section.indexOf(words);
    Due.is(name(promise) + " says \"" + words + "\"", place >= 0 ? 1 : 0, 1);
    boolean[] said = SAID.computeIfAbsent(promise, p -> new boolean[section.length()]);
    for (; place >= 0; place = section.indexOf(words, place + 1)) {
      for (int i = place; i < place + words.length(); i++) {
        said[i] = true;
      }
    }
  }

  /** Behind all tests: nothing of the document has been passed over. */
  static void allSaid() {
    for (int promise = TERMS; promise <= PROMISES; promise++) {
      String section = section(promise);
      boolean[] said = SAID.computeIfAbsent(promise, p -> new boolean[section.length()]);
      StringBuilder left = new StringBuilder();
      for (int i = 0; i < said.length; i++) {
        boolean word = Character.isLetterOrDigit(section.charAt(i));
        if (word && !said[i]) {
          left.append(section.charAt(i));
        } else if (left.length() > 0 && left.charAt(left.length() - 1) != ' ') {
          left.append(' ');
        }
      }
      Due.same("the tests of " + name(promise), left.toString().trim(), "");
    }
  }

  private static String name(int promise) {
    return promise < 1 ? "Terms" : "Promise " + promise;
  }

  /** The words under a heading, without the call that a promise begins with. */
  private static String section(int promise) {
    return SECTIONS.computeIfAbsent(promise, p -> {
      String document = document();
      if (p == TERMS) {
        return plain(between(document, "## Terms\n", "Ahead of the calls"));
      }
      if (p == INTERFACE) {
        return plain(between(document, "Ahead of the calls", "## Promise 1:"));
      }
      String text = between(document, "## Promise " + p + ":", "\n## ");
      return plain(text.substring(text.indexOf("`: ") + 2));
    });
  }

  private static String document() {
    try {
      return Files.readString(DOCUMENT);
    } catch (IOException e) {
      throw new UncheckedIOException(e);
    }
  }

  private static String between(String text, String begin, String end) {
    int from = text.indexOf(begin);
    int to = text.indexOf(end, from + begin.length());
    if (from < 0 || to < 0) {
      throw new IllegalStateException("the document has no " + begin.trim());
    }
    return text.substring(from + begin.length(), to);
  }

  private static String plain(String text) {
    return text.replace("```text", " ").replace("```", " ").replaceAll("\\s+", " ").trim();
  }
}
