import java.util.Arrays;
import java.util.Random;

/** All promises: random runs of calls, each answered as the plain model answers it. */
public final class RandomRunsTest {
  private static final String[] CALLS = {
    "letter:i", "form:", "acts:", "drop:", "change:ftv", "turn:fkg", "of:fk", "taken:fk", "coefficient:ft",
    "value:fppp", "lifted:fsnt", "fault:fsnb", "least:fsb", "failing:fsbb", "lowest:fsnb", "share:fsnb",
    "proof:fs", "walls:lnn", "wallsLeast:lb", "made:fefb", "sum:ff", "product:ff", "lift:fd", "negative:f",
    "on:fs", "spelled:fi", "lots:fwzb", "list:ld", "list:lw", "put:liv", "look:li", "lays:lif", "judge:lf",
    "undo:", "image:", "back:", "count:c",
  };
  private final Random random;
  private final FormsAboveNought x = new FormsAboveNought();
  private final PlainModel plain = new PlainModel();
  private final StringBuilder run = new StringBuilder();
  private int asked = 0;
  private boolean right = true;

  private RandomRunsTest(int seed) {
    random = new Random(seed);
  }

  public static void main(String[] args) {
    int runs = args.length > 0 ? Integer.parseInt(args[0]) : 400;
    int from = args.length > 1 ? Integer.parseInt(args[1]) : 0;
    int wrong = 0;
    for (int seed = from; seed < from + runs; seed++) {
      RandomRunsTest test = new RandomRunsTest(seed);
      if (!test.goesRight(seed % 2 == 0 ? 380 : 50)) {
        wrong++;
        System.out.println("run " + seed + ":\n" + test.run);
        if (wrong > 3) break;
      }
    }
    System.out.println(runs + " random runs, " + wrong + " not as due");
    if (wrong != 0) System.exit(1);
  }

  /** Behind so many calls no more begin; what has begun may take some hundred, and 512 in all are promised. */
  private boolean goesRight(int calls) {
    while (asked < calls && right) {
      int choice = random.nextInt(100);
      if (choice < 8) {
        write(aForm());
        ask("form");
      } else if (choice < 11) {
        if (random.nextBoolean()) {
          for (int n = random.nextInt(4); n >= 0; n--) ask("drop");
        }
        write(someActs());
        ask("acts");
      } else if (choice < 13) {
        aPolynomial();
      } else if (choice < 15) {
        smallNumbers();
      } else if (choice < 20) {
        doneAndUndone();
      } else {
        String[] call = CALLS[random.nextInt(CALLS.length)].split(":", -1);
        int[] p = new int[call[1].length()];
        for (int n = 0; n < p.length; n++) p[n] = number(call[1].charAt(n));
        ask(call[0], p);
      }
    }
    for (int what = 0; what <= 17; what++) ask("count", what);
    return right;
  }

  private void ask(String call, int... p) {
    asked++;
    long got = Due.ask(x, call, p);
    long due = plain.ask(call, p);
    run.append(call).append(Arrays.toString(p)).append(" ").append(got).append('\n');
    if (got != due) {
      run.append("   due is ").append(due).append('\n');
      right = false;
    }
  }

  private void write(String text) {
    // what stands there would mostly spoil it
    if (random.nextInt(9) > 0) ask("acts");
    for (int n = 0; n < text.length() && right; n++) ask("letter", text.charAt(n));
  }

  /** A number for a place in a call: mostly one that fits, at times one that does not. */
  private int number(char sort) {
    int odd = random.nextInt(40);
    if (odd == 0) return -1 - random.nextInt(3);
    if (odd == 1) return random.nextBoolean() ? Integer.MAX_VALUE : Integer.MIN_VALUE;
    switch (sort) {
      case 'f': return random.nextInt(odd == 2 ? 8 : 4);
      case 'g': return random.nextInt(11);
      case 'k': return random.nextInt(odd == 2 ? 7 : 6);
      case 't': return random.nextInt(odd < 6 ? 191 : odd < 12 ? 28 : odd < 25 ? 6 : 2);
      case 'v': return odd < 5 ? 999999 + odd : odd < 8 ? -1000004 + odd : random.nextInt(21) - 10;
      case 'p': return random.nextInt(odd == 2 ? 14 : 13);
      case 's': return random.nextInt(odd == 2 ? 9 : 7) + (odd == 2 ? 0 : 1);
      case 'n': return random.nextInt(odd < 6 ? 18 : 13);
      case 'b': return random.nextInt(odd == 2 ? 3 : 2);
      case 'l': return random.nextInt(odd == 2 ? 4 : 3);
      case 'e': return random.nextInt(odd < 9 ? 70 : 16);
      case 'd': return random.nextInt(odd < 9 ? 11 : 4);
      case 'w': return random.nextInt(odd < 9 ? 54 : 9);
      case 'i': return odd < 4 ? 253 + odd : random.nextInt(12) - 1;
      case 'z': return random.nextInt();
      default: return random.nextInt(19) - 1;
    }
  }

  private void doneAndUndone() {
    int form = random.nextInt(3);
    for (int n = random.nextInt(random.nextInt(6) == 0 ? 25 : 4); n >= 0; n--) {
      if (random.nextBoolean()) {
        ask("change", form, number('t'), number('v'));
      } else {
        ask("turn", form, number('k'), number('g'));
      }
    }
    ask("spelled", form, random.nextInt(9));
    for (int n = random.nextInt(3); n >= 0; n--) ask("undo");
  }

  private void aPolynomial() {
    int list = random.nextInt(3);
    int many = random.nextInt(6);
    ask("list", list, many);
    for (int i = 0; i < many; i++) {
      int v = i % 2 == 0 ? random.nextInt(9) : -random.nextInt(7);
      ask("put", list, i, random.nextInt(30) == 0 ? 1000001 : v);
    }
    ask("wallsLeast", list, random.nextInt(2));
    ask("walls", list, random.nextInt(17), random.nextInt(6));
  }

  /** Forms of one degree with numbers near one another, so that some are made of others. */
  private void smallNumbers() {
    while (random.nextInt(5) > 0) ask("drop");
    int degree = random.nextInt(2);
    for (int f = random.nextInt(3); f < 5 && right; f++) {
      String a = degree == 0 ? "" : "a";
      String b = degree == 0 ? "" : "b";
      write(random.nextInt(4) + a + "-" + random.nextInt(5) + b + (degree == 0 ? "" : "+" + random.nextInt(2) + "c"));
      ask("form");
    }
    for (int n = 0; n < 9; n++) ask("made", number('f'), number('e'), number('f'), random.nextInt(2));
  }

  private String aForm() {
    int degree = random.nextInt(random.nextInt(4) == 0 ? 7 : 3);
    StringBuilder text = new StringBuilder();
    int members = 1 + random.nextInt(5);
    for (int m = 0; m < members; m++) {
      if (m > 0 || random.nextInt(4) == 0) text.append(m > 0 && random.nextBoolean() ? '+' : '-');
      if (degree == 0 || random.nextBoolean()) text.append(random.nextInt(random.nextInt(3) == 0 ? 1000 : 8));
      int rest = degree;
      for (int c = 0; c < 3; c++) {
        int power = c == 2 ? rest : random.nextInt(rest + 1);
        rest -= power;
        if (power > 0) text.append((char) ('a' + c));
        if (power > 1 || power == 1 && random.nextInt(9) == 0) text.append('^').append(power);
      }
    }
    return spoilt(text, "abc^+-0123456789 d");
  }

  private String someActs() {
    String[] words = {"sum", "times", "lift", "minus", "side"};
    StringBuilder text = new StringBuilder();
    int acts = 1 + random.nextInt(3);
    for (int n = 0; n < acts; n++) {
      if (n > 0) text.append(';');
      int word = random.nextInt(5);
      text.append(words[word]).append(' ').append(random.nextInt(4));
      if (word != 3) text.append(' ').append(random.nextInt(word == 4 ? 9 : 4));
    }
    return spoilt(text, "sumtielf ;0123A");
  }

  /** At times with a letter more, less, or another. */
  private String spoilt(StringBuilder text, String letters) {
    int way = random.nextInt(8);
    if (way < 4 && text.length() > 0) {
      int place = random.nextInt(text.length());
      char c = letters.charAt(random.nextInt(letters.length()));
      if (way == 0) text.insert(place, c);
      if (way == 1) text.deleteCharAt(place);
      if (way == 2) text.setCharAt(place, c);
      if (way == 3) text.setLength(place);
    }
    return text.toString();
  }
}
