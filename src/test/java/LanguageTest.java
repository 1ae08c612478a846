import java.lang.reflect.Method;
import java.lang.reflect.Modifier;
import java.nio.file.Files;
import java.nio.file.Path;
import java.util.Arrays;
import java.util.List;
import java.util.Set;
import java.util.TreeSet;
import java.util.regex.Pattern;

/** What can be seen of LANGUAGE.md from outside: the face, names, lengths, words that are not used. */
public final class LanguageTest {
  private static final String[] FACE = {
    "letter 1", "form 0", "acts 0", "drop 0", "change 3", "turn 3", "of 2", "taken 2", "coefficient 2",
    "value 4 long", "lifted 4 long", "fault 4", "least 3", "failing 4", "lowest 4 long", "share 4 long",
    "proof 2", "walls 3 long", "wallsLeast 2", "made 4 long", "sum 2", "product 2", "lift 2", "negative 1",
    "on 2", "spelled 2", "lots 4", "list 2", "put 3", "look 2 long", "lays 3", "judge 2", "undo 0",
    "image 0", "back 0", "count 1",
  };
  private static final String[] UNUSED = {
    "\\bimport\\b", "\\bthrow\\b", "\\bcatch\\b", "\\bfinally\\b", "->", "::", "\\bsynchronized\\b", "\\bassert\\b",
    "\\bSystem\\.(?!arraycopy)", "\\bequals\\(Object", "\\bhashCode\\b", "\\btoString\\b", "Exact\\b", "\\bvar\\b",
    "Integer\\.M", "Long\\.M", "\\bString\\.format\\b", "[^\\x00-\\x7f]",
  };

  public static void main(String[] args) throws Exception {
    face();
    names();
    List<String> lines = Files.readAllLines(Path.of("src/main/java/FormsAboveNought.java"));
    for (String word : UNUSED) {
      Pattern pattern = Pattern.compile(word);
      for (int n = 0; n < lines.size(); n++) {
        Due.is("line " + (n + 1) + " has " + word, pattern.matcher(lines.get(n)).find() ? 1 : 0, 0);
      }
    }
    lengths(lines);
    depth(lines);
    room(lines);
    Due.end();
  }

  private static void face() {
    Set<String> has = new TreeSet<>();
    for (Method method : FormsAboveNought.class.getDeclaredMethods()) {
      if (Modifier.isPrivate(method.getModifiers())) continue;
      Due.is(method + " is public and no static one", method.getModifiers(), Modifier.PUBLIC);
      String sort = method.getReturnType() == long.class ? " long" : "";
      has.add(method.getName() + " " + method.getParameterCount() + sort);
    }
    Due.is("the face", has.toString(), new TreeSet<>(Arrays.asList(FACE)).toString());
    Due.is("public constructors", FormsAboveNought.class.getConstructors().length, 1);
    Due.is("final", Modifier.isFinal(FormsAboveNought.class.getModifiers()) ? 1 : 0, 1);
  }

  private static void names() {
    Set<String> face = new TreeSet<>();
    for (String one : FACE) face.add(one.split(" ")[0]);
    int classes = 1;
    for (Method method : FormsAboveNought.class.getDeclaredMethods()) own(face, method);
    for (Class<?> inside : FormsAboveNought.class.getDeclaredClasses()) {
      classes++;
      for (Method method : inside.getDeclaredMethods()) {
        own(face, method);
        Due.is(method + " bears a name of the face", face.contains(method.getName()) ? 1 : 0, 0);
      }
    }
    Due.is("more than twelve classes", classes > 12 ? classes : 0, 0);
  }

  private static void own(Set<String> face, Method method) {
    Due.is(method + " takes more than seven", method.getParameterCount() > 7 ? 1 : 0, 0);
    if (!Modifier.isPrivate(method.getModifiers())) return;
    Due.is(method + " bears a name of the face", face.contains(method.getName()) ? 1 : 0, 0);
  }

  /** From a line that opens a method to the one that closes it, told by the blanks ahead. */
  private static void lengths(List<String> lines) {
    for (int n = 0; n < lines.size(); n++) {
      String line = lines.get(n);
      String blanks = line.replaceAll("\\S.*", "");
      if (!line.endsWith(") {") || blanks.length() > 4 || line.matches("\\s+(if|for|while|switch).*")) continue;
      int end = n;
      while (end < lines.size() && !lines.get(end).equals(blanks + "}")) end++;
      Due.is("line " + (n + 1) + " opens a long method", end - n > 60 ? end - n : 0, 0);
    }
  }

  private static void depth(List<String> lines) {
    CallDepth calls = new CallDepth(lines);
    int most = calls.most();
    Due.is("calls go more than eight deep from " + calls.deepest(), most > 8 ? most : 0, 0);
    Due.is("methods are found", calls.methods() > FACE.length ? 1 : 0, 1);
  }

  /** Objects and arrays are made with the object alone: in fields, or in a constructor. */
  private static void room(List<String> lines) {
    boolean constructor = false;
    for (int n = 0; n < lines.size(); n++) {
      String line = lines.get(n);
      if (line.matches("    [A-Z]\\w+\\(\\) \\{")) constructor = true;
      if (line.equals("    }")) constructor = false;
      boolean makes = line.matches(".*(\\bnew |\\.clone\\(|\\bArrays\\.).*") && !line.matches("\\s+/?\\*.*");
      boolean field = line.matches("\\s+(private )?final [\\w\\[\\]]+ \\w+ = new .*;");
      Due.is("line " + (n + 1) + " makes something", makes && !field && !constructor ? 1 : 0, 0);
    }
  }
}
