import java.util.ArrayList;
import java.util.HashMap;
import java.util.List;
import java.util.Map;
import java.util.TreeSet;
import java.util.Set;
import java.util.regex.Matcher;
import java.util.regex.Pattern;

/**
 * How deep the calls of the class go, read from its source: which methods a method names. Methods of
 * one name in several classes are taken for one, so that it may tell more than there is, never less.
 */
final class CallDepth {
  private static final Pattern OPENS = Pattern.compile("(?:  |    )[a-zA-Z][\\w\\[\\] ]* (\\w+)\\([^)]*\\) \\{");
  private static final Pattern NAMES = Pattern.compile("(?<!Math\\.|Integer\\.)\\b(\\w+)\\(");
  private final Map<String, Set<String>> called = new HashMap<>();
  private final Map<String, Integer> known = new HashMap<>();
  private final List<String> open = new ArrayList<>();
  private String deepest = "";

  CallDepth(List<String> lines) {
    String method = null;
    for (String line : lines) {
      Matcher opens = OPENS.matcher(line);
      if (opens.matches()) {
        method = opens.group(1);
        called.computeIfAbsent(method, name -> new TreeSet<>());
      } else if (line.matches("(  |    )}")) {
        method = null;
      } else if (method != null) {
        Matcher names = NAMES.matcher(line);
        while (names.find()) called.get(method).add(names.group(1));
      }
    }
  }

  int methods() {
    return called.size();
  }

  /** Of all methods; a method that is open already would be recursion: far too deep. */
  int most() {
    int most = 0;
    for (String method : called.keySet()) {
      int depth = of(method);
      if (depth <= most) continue;
      most = depth;
      deepest = method;
    }
    return most;
  }

  String deepest() {
    return deepest;
  }

  private int of(String method) {
    if (open.contains(method)) return 1000;
    if (known.containsKey(method)) return known.get(method);
    open.add(method);
    int most = 0;
    for (String next : called.get(method)) {
      if (called.containsKey(next)) most = Math.max(most, of(next));
    }
    open.remove(method);
    known.put(method, most + 1);
    return most + 1;
  }
}
