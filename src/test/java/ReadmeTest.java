import java.nio.file.DirectoryStream;
import java.nio.file.Files;
import java.nio.file.Path;
import java.util.HashMap;
import java.util.List;
import java.util.Map;
import java.util.regex.Matcher;
import java.util.regex.Pattern;

/** README.md holds: each call that it shows answers what stands behind it, each test is named. */
public final class ReadmeTest {
  private static final Pattern MAKES = Pattern.compile("FormsAboveNought x = new FormsAboveNought\\(\\);");
  private static final Pattern TYPES =
      Pattern.compile("for \\(char c : \"([^\"]*)\"\\.toCharArray\\(\\)\\) x\\.letter\\(c\\);");
  private static final Pattern ASKS =
      Pattern.compile("(?:int (\\w+) = )?x\\.(\\w+)\\(([^)]*)\\);\\s+// (-?\\d+)(?::? .*)?");
  private final Map<String, Integer> named = new HashMap<>();
  private FormsAboveNought x = null;
  private int shown = 0;

  public static void main(String[] args) throws Exception {
    List<String> lines = Files.readAllLines(Path.of("README.md"));
    ReadmeTest readme = new ReadmeTest();
    boolean java = false;
    for (String line : lines) {
      if (line.startsWith("```")) {
        java = line.equals("```java");
      } else if (java) {
        readme.line(line);
      }
    }
    Due.is("README shows calls", readme.shown > 20 ? 1 : 0, 1);
    tests(String.join("\n", lines));
    Due.end();
  }

  private void line(String line) {
    Matcher types = TYPES.matcher(line);
    Matcher asks = ASKS.matcher(line);
    if (MAKES.matcher(line).matches()) {
      x = new FormsAboveNought();
    } else if (types.matches()) {
      Due.type(x, types.group(1));
    } else if (asks.matches()) {
      long got = Due.ask(x, asks.group(2), numbers(asks.group(3)));
      if (asks.group(1) != null) named.put(asks.group(1), (int) got);
      Due.is("README: " + line, got, Long.parseLong(asks.group(4)));
      shown++;
    } else {
      Due.is("README: " + line + ", not read: ", 1, 0);
    }
  }

  private int[] numbers(String text) {
    String[] parts = text.isEmpty() ? new String[0] : text.split(", ");
    int[] all = new int[parts.length];
    for (int n = 0; n < parts.length; n++) {
      all[n] = named.containsKey(parts[n]) ? named.get(parts[n]) : Integer.parseInt(parts[n]);
    }
    return all;
  }

  private static void tests(String readme) throws Exception {
    try (DirectoryStream<Path> files = Files.newDirectoryStream(Path.of("src/test/java"), "*Test.java")) {
      for (Path file : files) {
        String name = file.getFileName().toString().replace(".java", "");
        Due.is("README names " + name, readme.contains("| `" + name + "` |") ? 1 : 0, 1);
      }
    }
  }
}
