import java.util.Arrays;
import java.util.function.Supplier;

/** What the tests of edges share: calls that are refused change nothing but how many there were. */
final class Edge {
  static final int MIN = Integer.MIN_VALUE;
  static final int MAX = Integer.MAX_VALUE;

  private Edge() {
  }

  static void is(FormsAboveNought x, long due, String call, int... p) {
    Due.is(call + Arrays.toString(p), Due.ask(x, call, p), due);
  }

  /**
   * Four forms (one of a kind, one turned since the image of three, one changed), two that can be
   * undone, a list of three, an empty one, a missing one, letters that stand: what most calls need.
   */
  static FormsAboveNought some() {
    FormsAboveNought x = Due.with("a^2-3bc+2c^2", "a-b", "7");
    x.turn(0, 3, 2);
    x.image();
    Due.form(x, "4a+b-c");
    x.change(3, 0, 5);
    x.turn(1, 1, 3);
    x.list(0, 3);
    x.put(0, 0, 1);
    x.put(0, 1, -2);
    x.put(0, 2, 2);
    x.list(1, 0);
    Due.type(x, "2a-b");
    return x;
  }

  /** Six forms and letters of one more. */
  static FormsAboveNought full() {
    FormsAboveNought x = Due.with("a", "b", "c", "1", "a^6", "a-b");
    x.change(5, 2, 1);
    Due.type(x, "c");
    return x;
  }

  /** A refusal that answers its number. */
  static void refused(int number, String call, int... p) {
    refused(Edge::some, number, call, p);
  }

  static void refused(Supplier<FormsAboveNought> start, int number, String call, int... p) {
    refusedBy(start, number, number, call, p);
  }

  /** A refusal "far", of a call that answers a long. */
  static void refusedFar(int number, String call, int... p) {
    refusedFar(Edge::some, number, call, p);
  }

  static void refusedFar(Supplier<FormsAboveNought> start, int number, String call, int... p) {
    refusedBy(start, number, 4000000000000000000L - number, call, p);
  }

  /** A refusal "far", of a call that answers an int. */
  static void refusedFarInt(int number, String call, int... p) {
    refusedBy(Edge::some, number, 1000000000 - number, call, p);
  }

  private static void refusedBy(Supplier<FormsAboveNought> start, int number, long due, String call, int... p) {
    FormsAboveNought x = start.get();
    FormsAboveNought same = start.get();
    String told = call + Arrays.toString(p);
    is(x, due, call, p);
    for (int n = 1; n <= 6; n++) {
      int more = n == -number ? 1 : 0;
      Due.is(told + ": count(" + (10 + n) + ")", x.count(10 + n), same.count(10 + n) + more);
    }
    Due.is(told + ": all that is there", seen(x), seen(same));
  }

  /** All that can be seen of an object but its refusals; it is worn out by that. */
  static String seen(FormsAboveNought x) {
    StringBuilder text = new StringBuilder();
    for (int what = 0; what <= 4; what++) text.append(x.count(what)).append(' ');
    for (int list = 0; list < 3; list++) row(x, list, text);
    forms(x, text);
    while (x.count(3) > 0) {
      text.append("undone ").append(x.undo());
      forms(x, text);
    }
    plain(x, text);
    // where there are six, letters can't be read
    if (x.count(0) == 6) x.drop();
    int come = x.form();
    text.append("letters ").append(come).append(' ');
    if (come >= 0) form(x, come, text);
    int kept = x.back();
    text.append("image ").append(kept);
    if (kept < 0) return text.toString();
    forms(x, text);
    plain(x, text);
    return text.toString();
  }

  private static void row(FormsAboveNought x, int list, StringBuilder text) {
    long number = x.look(list, 0);
    for (int i = 1; number < Due.FAR; i++) {
      text.append(number).append(' ');
      number = x.look(list, i);
    }
    text.append(number == Due.FAR + 11 ? "missing\n" : "row\n");
  }

  private static void forms(FormsAboveNought x, StringBuilder text) {
    int many = x.count(0);
    for (int form = 0; form < many; form++) form(x, form, text);
    text.append('\n');
  }

  private static void form(FormsAboveNought x, int form, StringBuilder text) {
    for (int what = 0; what <= 2; what++) text.append(x.of(form, what)).append(' ');
    int terms = x.of(form, 3);
    for (int term = 0; term < terms; term++) text.append(x.coefficient(form, term)).append(' ');
  }

  /** The told numbers: the coefficients, if all kinds are plain. */
  private static void plain(FormsAboveNought x, StringBuilder text) {
    for (int form = 0; form < x.count(0); form++) x.turn(form, 0, 0);
    forms(x, text);
  }
}
