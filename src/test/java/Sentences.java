import java.nio.file.Files;
import java.nio.file.Path;
import java.util.ArrayList;
import java.util.List;

/**
 * The document's sentences, each with the head under which it stands. The tests of edges say which
 * one they try; at the end none may be left that no test has tried.
 */
final class Sentences {
  private static final String ENDS = "(?<=[^. ])\\.(?=\\s|$)";
  private static final List<String> HEADS = new ArrayList<>();
  private static final List<String> TEXTS = new ArrayList<>();
  private static boolean[] tried = {};

  private Sentences() {
  }

  /** What stands behind the heads "Terms" and "Promise 1" and on, and the one on 512 calls. */
  static void read() throws Exception {
    String head = "What it is";
    boolean code = false;
    for (String line : Files.readAllLines(Path.of("../shared/DOC.md"))) {
      if (line.startsWith("```")) code = line.equals("```java");
      if (line.startsWith("#")) head = line.replaceAll("^#+ ", "").replaceAll(":.*", "");
      boolean isText = !line.isBlank() && !line.startsWith("#") && !line.startsWith("```") && !code;
      if (isText && !line.startsWith("Ahead of the calls")) take(head, line);
    }
    tried = new boolean[TEXTS.size()];
  }

  private static void take(String head, String line) {
    boolean counts = head.equals("Terms") || head.startsWith("Promise") || line.startsWith("An object is used");
    if (!counts) return;
    for (String text : line.strip().split(ENDS)) {
      HEADS.add(head);
      TEXTS.add(text.strip());
    }
  }

  /** The tests that come now try the one sentence under a head that begins with these words. */
  static void tries(String head, String words) {
    int found = 0;
    for (int n = 0; n < TEXTS.size(); n++) {
      if (!HEADS.get(n).equals(head) || !TEXTS.get(n).startsWith(words)) continue;
      Due.is(head + ", " + words + " is tried twice", tried[n] ? 1 : 0, 0);
      tried[n] = true;
      found++;
    }
    Due.is("sentences of " + head + " that begin with: " + words, found, 1);
  }

  /** Those of a promise: what the call does, from its face on, and what it refuses. */
  static void tries(int promise, String words) {
    tries("Promise " + promise, words);
  }

  static void end() {
    Due.is("sentences are read", TEXTS.size() > 100 ? 1 : 0, 1);
    for (int n = 0; n < TEXTS.size(); n++) {
      Due.is("tests of: " + HEADS.get(n) + ": " + TEXTS.get(n), tried[n] ? 1 : 0, 1);
    }
  }
}
