import java.lang.reflect.Method;
import java.util.Arrays;

/** What the tests share: they tell each answer that is not the one that is due. */
final class Due {
  static final long FAR = 4000000000000000000L;
  static final int FAR_INT = 1000000000;
  private static int asked = 0;
  private static int wrong = 0;

  private Due() {
  }

  static void is(String call, long got, long due) {
    asked++;
    if (got == due) return;
    wrong++;
    System.out.println(call + " answered " + got + ", due is " + due);
  }

  static void is(String call, String got, String due) {
    asked++;
    if (got.equals(due)) return;
    wrong++;
    System.out.println(call + " answered " + got + ", due is " + due);
  }

  /** A call by its name: all calls take ints alone. */
  static long ask(FormsAboveNought x, String call, int... p) {
    Class<?>[] types = new Class<?>[p.length];
    Object[] values = new Object[p.length];
    for (int n = 0; n < p.length; n++) {
      types[n] = int.class;
      values[n] = p[n];
    }
    try {
      Method method = FormsAboveNought.class.getMethod(call, types);
      return ((Number) method.invoke(x, values)).longValue();
    } catch (ReflectiveOperationException e) {
      throw new IllegalStateException(call + Arrays.toString(p), e);
    }
  }

  /** All refusals so far, -1 .. -6, each told by its number in turn. */
  static void refusals(String where, FormsAboveNought x, int... due) {
    for (int n = 0; n < 6; n++) is(where + ": count(" + (11 + n) + ")", x.count(11 + n), due[n]);
  }

  static void type(FormsAboveNought x, String text) {
    for (int n = 0; n < text.length(); n++) x.letter(text.charAt(n));
  }

  static int form(FormsAboveNought x, String text) {
    type(x, text);
    return x.form();
  }

  static int acts(FormsAboveNought x, String text) {
    type(x, text);
    return x.acts();
  }

  /** A new object with a form for each text. */
  static FormsAboveNought with(String... texts) {
    FormsAboveNought x = new FormsAboveNought();
    for (int n = 0; n < texts.length; n++) is("form " + texts[n], form(x, texts[n]), n);
    return x;
  }

  static String spelling(FormsAboveNought x, int form) {
    StringBuilder text = new StringBuilder();
    int length = x.spelled(form, -1);
    for (int i = 0; i < length; i++) text.append((char) x.spelled(form, i));
    return text.toString();
  }

  static void end() {
    System.out.println(asked + " answers, " + wrong + " not as due");
    if (wrong != 0 || asked == 0) System.exit(1);
  }
}
