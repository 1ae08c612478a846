import java.util.function.Supplier;

/** Edges of promises 1 to 18: forms, lifted forms, points. */
final class FormCallEdges {
  private static final int[] NO_FORM = {-1, 4, Edge.MIN, Edge.MAX};
  private static final int[] NO_SIDE = {-1, 0, 8, Edge.MIN, Edge.MAX};
  private static final int[] NO_BIT = {-1, 2, Edge.MIN, Edge.MAX};
  private static final int[] BELOW_0 = {-1, Edge.MIN};
  private static final int[] ABOVE_12 = {13, Edge.MAX};

  private FormCallEdges() {
  }

  static void all() {
    aNewObject();
    letter();
    form();
    acts();
    drop();
    change();
    turn();
    of();
    taken();
    coefficient();
    value();
    lifted();
    fault();
    least();
    failing();
    lowest();
    share();
    proof();
  }

  private static void aNewObject() {
    Sentences.tries(1, "`FormsAboveNought()`");
    FormsAboveNought x = new FormsAboveNought();
    for (int what = 0; what <= 4; what++) Edge.is(x, 0, "count", what);
    Due.refusals("a new object", x, 0, 0, 0, 0, 0, 0);
    Edge.is(x, 0, "image");
    Edge.is(x, -1, "proof", 0, 7);
    Supplier<FormsAboveNought> none = FormsAboveNought::new;
    Edge.refused(none, -1, "of", 0, 0);
    Edge.refused(none, -1, "spelled", 0, -1);
    Edge.refused(none, -1, "sum", 0, 0);
    Edge.refused(none, -3, "drop");
    Edge.refused(none, -3, "undo");
    Edge.refused(none, -3, "back");
    Edge.refused(none, -11, "put", 0, 0, 0);
    Edge.refusedFar(none, -1, "value", 0, 0, 0, 0);
    Edge.refusedFar(none, -1, "made", 0, 1, 0, 0);
  }

  private static void letter() {
    Sentences.tries(2, "`int letter");
    FormsAboveNought x = new FormsAboveNought();
    Edge.is(x, 1, "letter", 0);
    Edge.is(x, 2, "letter", 255);
    for (int n = 3; n <= 72; n++) Edge.is(x, n, "letter", n);
    Edge.is(x, 72, "count", 1);
    Edge.is(x, -1000, "form");
    Edge.is(x, 1, "letter", 'a');
    Edge.is(x, 0, "form");
    Edge.is(x, 1, "letter", 'a');

    Sentences.tries(2, "-4; -6 (255; 72, too)");
    for (int c : BELOW_0) Edge.refused(-4, "letter", c);
    for (int c : new int[] {256, Edge.MAX}) Edge.refused(-6, "letter", c);
    for (int c : new int[] {0, 255, 256, 'a'}) Edge.refused(FormCallEdges::allLetters, -6, "letter", c);
    for (int c : BELOW_0) Edge.refused(FormCallEdges::allLetters, -4, "letter", c);
  }

  private static FormsAboveNought allLetters() {
    FormsAboveNought x = Due.with("b");
    Due.type(x, "a" + "+a".repeat(35) + "-");
    return x;
  }

  private static void form() {
    Sentences.tries(3, "`int form()`");
    FormsAboveNought x = new FormsAboveNought();
    String[] texts = {"a", "-b^6", "000", "a" + "+c".repeat(35), "-a^2" + "+b^2".repeat(17), "999c"};
    for (int n = 0; n < 6; n++) {
      Due.is("form " + texts[n], Due.form(x, texts[n]), n);
      Edge.is(x, 0, "count", 1);
      Edge.is(x, n + 1, "count", 0);
    }
    for (String text : new String[] {"", "d", "a+", "a+b^2", "-" + "+".repeat(71)}) {
      FormsAboveNought y = noLetters();
      Due.is("form " + text + " is none", Due.form(y, text) <= -1000 ? 1 : 0, 1);
      Due.is("it leaves no letters", y.count(1), 0);
      Due.refusals("a text with a fault", y, 0, 0, 0, 0, 0, 0);
      Due.is("all but the letters", Edge.seen(y), Edge.seen(noLetters()));
    }

    Sentences.tries(3, "-6 six there are (ahead of all; the letters stay)");
    Edge.refused(Edge::full, -6, "form");
    Edge.refused(FormCallEdges::fullAndEmpty, -6, "form");
    FormsAboveNought y = Edge.full();
    Edge.is(y, 2, "letter", 'x');
    Edge.is(y, -6, "form");
    Edge.is(y, 2, "count", 1);
    Edge.is(y, 5, "drop");
    Edge.is(y, -1001, "form");
    Edge.is(y, 0, "count", 1);
    Due.is("five and one", Due.form(y, "c"), 5);
  }

  private static FormsAboveNought noLetters() {
    FormsAboveNought x = Edge.some();
    x.acts();
    return x;
  }

  private static FormsAboveNought fullAndEmpty() {
    return Due.with("a", "b", "c", "1", "2", "3");
  }

  private static void acts() {
    Sentences.tries(4, "`int acts()`");
    FormsAboveNought x = Due.with("a");
    Due.is("one", Due.acts(x, "minus 0"), 1);
    Due.is("four", Due.acts(x, "minus 0;sum 0 2;lift 3 5;side 4 2"), 4);
    Due.is("the last", Due.spelling(x, 5), "0");
    Due.is("the one ahead of it", x.coefficient(4, 0), 0);
    Edge.is(x, 6, "count", 0);
    Edge.is(x, 0, "count", 1);
    for (String text : new String[] {"", "x", "minus", "minus 0;", "minus 4", "minus 0;minus 5", "side 0 0",
        "minus 0;minus 0;minus 0", "lift 0 5", "minus 0" + ";minus 0".repeat(8) + ";"}) {
      FormsAboveNought y = noLetters();
      Due.is("acts " + text + " are none", Due.acts(y, text) <= -1000 ? 1 : 0, 1);
      Due.is("they leave no letters", y.count(1), 0);
      Due.refusals("acts with a fault", y, 0, 0, 0, 0, 0, 0);
      Due.is("all but the letters", Edge.seen(y), Edge.seen(noLetters()));
    }
  }

  private static void drop() {
    Sentences.tries(5, "`int drop()`");
    FormsAboveNought x = fullAndEmpty();
    for (int n = 5; n >= 0; n--) {
      Edge.is(x, n, "drop");
      Edge.is(x, n, "count", 0);
      Edge.is(x, -1, "of", n, 0);
      if (n > 0) Edge.is(x, 0, "of", n - 1, 0);
    }

    Sentences.tries(5, "-3 there is none");
    Edge.is(x, -3, "drop");
    Edge.refused(FormsAboveNought::new, -3, "drop");
    Edge.refused(FormCallEdges::noneAnyMore, -3, "drop");
  }

  private static FormsAboveNought noneAnyMore() {
    FormsAboveNought x = Edge.some();
    for (int n = 0; n < 4; n++) x.drop();
    return x;
  }

  private static void change() {
    Sentences.tries(6, "`int change");
    FormsAboveNought x = Edge.some();
    Edge.is(x, 1, "change", 0, 0, -1000000);
    Edge.is(x, -1000000, "change", 0, 0, 1000000);
    Edge.is(x, 1000000, "change", 0, 0, 0);
    Edge.is(x, 0, "change", 0, 0, 0);
    Edge.is(x, 2, "change", 0, 5, 1);
    Edge.is(x, 7, "change", 2, 0, 8);
    Edge.is(x, -1, "change", 3, 2, 4);
    Edge.is(x, -2, "coefficient", 0, 0);

    Sentences.tries(6, "Refused far: -1 either; -4 -1000000; -6 1000000");
    for (int form : NO_FORM) {
      Edge.refusedFarInt(-1, "change", form, 0, 0);
      Edge.refusedFarInt(-1, "change", form, -1, Edge.MAX);
    }
    for (int term : new int[] {-1, 6, 27, Edge.MIN, Edge.MAX}) {
      Edge.refusedFarInt(-1, "change", 0, term, 0);
      Edge.refusedFarInt(-1, "change", 0, term, Edge.MIN);
    }
    Edge.refusedFarInt(-1, "change", 2, 1, 0);
    Edge.refusedFarInt(-1, "change", 3, 3, 0);
    for (int v : new int[] {-1000001, Edge.MIN}) Edge.refusedFarInt(-4, "change", 0, 5, v);
    for (int v : new int[] {1000001, Edge.MAX}) Edge.refusedFarInt(-6, "change", 0, 5, v);
  }

  private static void turn() {
    Sentences.tries(7, "`int turn");
    FormsAboveNought x = Due.with("a", "1", "b", "c");
    int was = 0;
    for (int kind = 0; kind <= 5; kind++) {
      for (int figure = 0; figure <= 9; figure += 9) {
        Edge.is(x, was, "turn", 3, kind, figure);
        was = 10 * kind + figure;
      }
    }
    Edge.is(x, 59, "turn", 3, 0, 0);
    Edge.is(x, 0, "turn", 3, 0, 0);
    Edge.is(x, 0, "turn", 0, 0, 0);

    Sentences.tries(7, "-1; -2; -4; -6 9");
    for (int form : NO_FORM) {
      Edge.refused(-1, "turn", form, 0, 0);
      Edge.refused(-1, "turn", form, 6, -1);
      Edge.refused(-1, "turn", form, 0, 10);
    }
    for (int kind : new int[] {-1, 6, Edge.MIN, Edge.MAX}) {
      Edge.refused(-2, "turn", 0, kind, 0);
      Edge.refused(-2, "turn", 0, kind, -1);
      Edge.refused(-2, "turn", 0, kind, 10);
    }
    for (int figure : BELOW_0) Edge.refused(-4, "turn", 3, 5, figure);
    for (int figure : new int[] {10, Edge.MAX}) Edge.refused(-6, "turn", 0, 0, figure);
  }

  private static void of() {
    Sentences.tries(8, "`int of");
    FormsAboveNought x = Due.with("0", "-1", "1", "0a^6", "-a+b", "a");
    x.turn(3, 3, 9);
    x.turn(5, 5, 0);
    int[][] due = {{0, 0, 0, 1, 1, 0}, {0, 0, 0, 1, 0, 1}, {0, 0, 0, 1, 0, 0}, {3, 9, 6, 28, 0, 28},
        {0, 0, 1, 3, 1, 1}, {5, 0, 1, 3, 3, 0}};
    for (int form = 0; form < 6; form++) {
      for (int what = 0; what <= 5; what++) Edge.is(x, due[form][what], "of", form, what);
    }
    x.turn(3, 3, 0);
    Edge.is(x, 28, "of", 3, 4);
    Edge.is(x, 0, "of", 3, 5);

    Sentences.tries(8, "-1; -2");
    for (int form : NO_FORM) {
      Edge.refused(-1, "of", form, 0);
      Edge.refused(-1, "of", form, 6);
    }
    for (int what : new int[] {-1, 6, Edge.MIN, Edge.MAX}) Edge.refused(-2, "of", 0, what);
  }

  private static void taken() {
    Sentences.tries(9, "`int taken");
    int[][] ofAndUnder = {{0, 1, 2, 3, 4, 5}, {1, 4}, {2, 5}, {3}, {4}, {5}};
    FormsAboveNought x = Due.with("a");
    for (int own = 0; own <= 5; own++) {
      x.turn(0, own, 0);
      for (int kind = 0; kind <= 5; kind++) {
        boolean is = false;
        for (int under : ofAndUnder[kind]) is |= under == own;
        Edge.is(x, is ? own : -16, "taken", 0, kind);
      }
    }

    Sentences.tries(9, "-1; -2; -16");
    for (int form : NO_FORM) {
      Edge.refused(-1, "taken", form, 0);
      Edge.refused(-1, "taken", form, 6);
    }
    for (int kind : new int[] {-1, 6, Edge.MIN, Edge.MAX}) Edge.refused(-2, "taken", 0, kind);
    for (int kind : new int[] {1, 2, 4, 5}) Edge.refused(-16, "taken", 0, kind);
    for (int kind : new int[] {2, 3, 4, 5}) Edge.refused(-16, "taken", 1, kind);
    for (int kind : new int[] {1, 2, 3, 4, 5}) Edge.refused(-16, "taken", 2, kind);
  }

  private static void coefficient() {
    Sentences.tries(10, "`int coefficient");
    FormsAboveNought x = Due.with("-5", "a^6-3c^6", "a-b");
    Edge.is(x, -5, "coefficient", 0, 0);
    Edge.is(x, 1, "coefficient", 1, 0);
    Edge.is(x, 0, "coefficient", 1, 1);
    Edge.is(x, 0, "coefficient", 1, 26);
    Edge.is(x, -3, "coefficient", 1, 27);
    x.turn(2, 3, 9);
    x.change(2, 2, -1000000);
    Edge.is(x, -1000009, "coefficient", 2, 2);

    Sentences.tries(10, "Refused far: -1 either");
    for (int form : NO_FORM) Edge.refusedFarInt(-1, "coefficient", form, 0);
    for (int term : new int[] {-1, 6, 28, Edge.MIN, Edge.MAX}) Edge.refusedFarInt(-1, "coefficient", 0, term);
    Edge.refusedFarInt(-1, "coefficient", 2, 1);
    Edge.refusedFarInt(-1, "coefficient", 3, 3);
  }

  private static void value() {
    Sentences.tries(11, "`long value");
    FormsAboveNought x = Due.with("a+20b+400c", "-9", "a^2b^2c^2");
    for (int at = 0; at <= 12; at += 12) {
      Edge.is(x, at, "value", 0, at, 0, 0);
      Edge.is(x, 20L * at, "value", 0, 0, at, 0);
      Edge.is(x, 400L * at, "value", 0, 0, 0, at);
      Edge.is(x, 421L * at, "value", 0, at, at, at);
      Edge.is(x, -9, "value", 1, at, at, at);
      Edge.is(x, at == 0 ? 0 : 2985984, "value", 2, at, at, at);
    }

    Sentences.tries(11, "Refused far: -1; -4 any; -6 any");
    for (int form : NO_FORM) {
      Edge.refusedFar(-1, "value", form, 0, 0, 0);
      Edge.refusedFar(-1, "value", form, -1, 0, 13);
    }
    for (int low : BELOW_0) {
      Edge.refusedFar(-4, "value", 0, low, 0, 0);
      Edge.refusedFar(-4, "value", 0, 0, low, 0);
      Edge.refusedFar(-4, "value", 0, 0, 0, low);
      Edge.refusedFar(-4, "value", 0, 13, 13, low);
      Edge.refusedFar(-4, "value", 0, 13, low, 13);
      Edge.refusedFar(-4, "value", 0, low, 13, 13);
    }
    for (int high : ABOVE_12) {
      Edge.refusedFar(-6, "value", 0, high, 0, 0);
      Edge.refusedFar(-6, "value", 0, 0, high, 0);
      Edge.refusedFar(-6, "value", 0, 0, 0, high);
    }
  }

  private static void lifted() {
    Sentences.tries(12, "`long lifted");
    FormsAboveNought x = Due.with("a-b", "-1", "a^6");
    Edge.is(x, 1, "lifted", 0, 7, 0, 0);
    Edge.is(x, 0, "lifted", 0, 7, 0, 2);
    Edge.is(x, 1, "lifted", 0, 7, 12, 0);
    Edge.is(x, 11, "lifted", 0, 3, 12, 1);
    Edge.is(x, -11, "lifted", 0, 3, 12, 12);
    Edge.is(x, -1, "lifted", 0, 3, 12, 13);
    Edge.is(x, -1, "lifted", 1, 4, 12, 0);
    x.change(2, 0, 1000000);
    Edge.is(x, 34650000000L, "lifted", 2, 7, 12, 40);

    Sentences.tries(12, "Refused far: -1 (FORM, SIDE); -4 n; -6 12; -1 no such TERM");
    for (int form : NO_FORM) {
      Edge.refusedFar(-1, "lifted", form, 7, 0, 0);
      Edge.refusedFar(-1, "lifted", form, 7, -1, 0);
    }
    for (int side : NO_SIDE) {
      Edge.refusedFar(-1, "lifted", 0, side, 0, 0);
      Edge.refusedFar(-1, "lifted", 0, side, 13, 0);
    }
    for (int n : BELOW_0) {
      Edge.refusedFar(-4, "lifted", 0, 7, n, 0);
      Edge.refusedFar(-4, "lifted", 0, 7, n, -1);
    }
    for (int n : ABOVE_12) {
      Edge.refusedFar(-6, "lifted", 0, 7, n, 0);
      Edge.refusedFar(-6, "lifted", 0, 7, n, -1);
    }
    // of degree 2: 6 terms lifted by 0 on side 7, 120 by 12; 3 and 15 on two letters; 1 on one
    int[][] none = {{7, 0, 6}, {7, 12, 120}, {3, 0, 3}, {5, 12, 15}, {6, 1, 4}, {1, 0, 1}, {2, 12, 1}, {4, 5, 1}};
    for (int[] p : none) {
      Due.is("the last term is there", Edge.some().lifted(0, p[0], p[1], p[2] - 1) < Due.FAR ? 1 : 0, 1);
      for (int t : new int[] {-1, p[2], Edge.MIN, Edge.MAX}) Edge.refusedFar(-1, "lifted", 0, p[0], p[1], t);
    }
  }

  private static void fault() {
    Sentences.tries(13, "`int fault");
    FormsAboveNought x = Due.with("a-b", "0", "a");
    Edge.is(x, 1, "fault", 0, 7, 0, 0);
    Edge.is(x, 7, "fault", 0, 3, 12, 0);
    Edge.is(x, 7, "fault", 0, 3, 12, 1);
    Edge.is(x, 6, "fault", 0, 3, 11, 1);
    Edge.is(x, 7, "fault", 0, 3, 11, 0);
    Edge.is(x, -9, "fault", 1, 7, 12, 0);
    Edge.is(x, 0, "fault", 1, 7, 12, 1);
    Edge.is(x, -9, "fault", 2, 1, 12, 1);

    Sentences.tries(13, "-1 (FORM, SIDE); -2; -4; -6 12");
    for (int form : NO_FORM) {
      Edge.refused(-1, "fault", form, 7, 0, 0);
      Edge.refused(-1, "fault", form, 7, -1, 2);
    }
    for (int side : NO_SIDE) {
      Edge.refused(-1, "fault", 0, side, 0, 0);
      Edge.refused(-1, "fault", 0, side, 13, 2);
    }
    for (int sort : NO_BIT) {
      Edge.refused(-2, "fault", 0, 7, 0, sort);
      Edge.refused(-2, "fault", 0, 7, -1, sort);
      Edge.refused(-2, "fault", 0, 7, 13, sort);
    }
    for (int n : BELOW_0) Edge.refused(-4, "fault", 0, 7, n, 1);
    for (int n : ABOVE_12) Edge.refused(-6, "fault", 0, 7, n, 1);
  }

  private static void least() {
    Sentences.tries(14, "`int least");
    FormsAboveNought x = Due.with("a^2-7ab+21b^2", "a^2-8ab+27b^2", "a^2+b^2");
    Edge.is(x, 12, "least", 0, 3, 0);
    Edge.is(x, -9, "least", 0, 7, 1);
    Edge.is(x, -9, "least", 1, 3, 0);
    Edge.is(x, 0, "least", 2, 3, 0);
    Edge.is(x, 1, "least", 2, 3, 1);
    Edge.is(x, 0, "least", 1, 1, 1);

    Sentences.tries(14, "-1 (FORM, SIDE); -2");
    for (int form : NO_FORM) {
      Edge.refused(-1, "least", form, 7, 0);
      Edge.refused(-1, "least", form, 7, 2);
    }
    for (int side : NO_SIDE) {
      Edge.refused(-1, "least", 0, side, 0);
      Edge.refused(-1, "least", 0, side, 2);
    }
    for (int sort : NO_BIT) Edge.refused(-2, "least", 0, 7, sort);
  }

  private static void failing() {
    Sentences.tries(15, "`int failing");
    FormsAboveNought x = Due.with("a-b", "1", "49a^2-70ab+25b^2", "64a^2-80ab+25b^2");
    int[][] due = {{1, 1, 1, 1}, {-9, -9, -9, -9}, {-9, -9, 12, 7}, {-9, -9, -9, -9}};
    for (int form = 0; form < 4; form++) {
      for (int n = 0; n < 4; n++) Edge.is(x, due[form][n], "failing", form, 3, n / 2, n % 2);
    }

    Sentences.tries(15, "-1 (FORM, SIDE); -2 either");
    for (int form : NO_FORM) {
      Edge.refused(-1, "failing", form, 7, 0, 0);
      Edge.refused(-1, "failing", form, 7, 2, 2);
    }
    for (int side : NO_SIDE) {
      Edge.refused(-1, "failing", 0, side, 0, 0);
      Edge.refused(-1, "failing", 0, side, 2, 2);
    }
    for (int odd : NO_BIT) {
      Edge.refused(-2, "failing", 0, 7, odd, 0);
      Edge.refused(-2, "failing", 0, 7, 0, odd);
      Edge.refused(-2, "failing", 1, 7, odd, odd);
    }
  }

  private static void lowest() {
    Sentences.tries(16, "`long lowest");
    FormsAboveNought x = Due.with("b-a", "5", "abc");
    Edge.is(x, -1, "lowest", 0, 7, 1, 0);
    Edge.is(x, 0, "lowest", 0, 7, 1, 1);
    Edge.is(x, -12, "lowest", 0, 3, 12, 0);
    Edge.is(x, 0, "lowest", 0, 3, 12, 1);
    Edge.is(x, 0, "lowest", 0, 6, 12, 0);
    Edge.is(x, 12, "lowest", 0, 6, 12, 1);
    for (int side = 1; side <= 7; side++) {
      for (int n = 1; n <= 12; n += 11) {
        Edge.is(x, 5, "lowest", 1, side, n, 0);
        Edge.is(x, 0, "lowest", 1, side, n, 1);
        Edge.is(x, 0, "lowest", 2, side, n, 0);
      }
    }

    Sentences.tries(16, "Refused far: -1 (FORM, SIDE); -4 1; -6 12; -2");
    pointsRefused("lowest");
  }

  private static void share() {
    Sentences.tries(17, "`long share");
    FormsAboveNought x = Due.with("b-a", "5", "abc");
    Edge.is(x, 1, "share", 0, 7, 1, 0);
    Edge.is(x, 3, "share", 0, 7, 1, 1);
    Edge.is(x, 6, "share", 0, 3, 12, 0);
    Edge.is(x, 13, "share", 0, 3, 12, 1);
    for (int side = 1; side <= 7; side++) {
      for (int n = 1; n <= 12; n += 11) {
        Edge.is(x, 1, "share", 1, side, n, 0);
        Edge.is(x, 1, "share", 1, side, n, 1);
        boolean isInside = side == 7 && n == 12;
        Edge.is(x, isInside ? 55 : 0, "share", 2, side, n, 0);
        Edge.is(x, isInside ? 91 : 1, "share", 2, side, n, 1);
      }
    }

    Sentences.tries(17, "Refused far: -1 (FORM, SIDE); -4 1; -6 12; -2");
    pointsRefused("share");
  }

  private static void pointsRefused(String call) {
    for (int form : NO_FORM) {
      Edge.refusedFar(-1, call, form, 7, 1, 0);
      Edge.refusedFar(-1, call, form, 7, 0, 2);
    }
    for (int side : NO_SIDE) {
      Edge.refusedFar(-1, call, 0, side, 1, 0);
      Edge.refusedFar(-1, call, 0, side, 13, 2);
    }
    for (int n : new int[] {0, -1, Edge.MIN}) {
      Edge.refusedFar(-4, call, 0, 7, n, 0);
      Edge.refusedFar(-4, call, 0, 7, n, 2);
    }
    for (int n : ABOVE_12) {
      Edge.refusedFar(-6, call, 0, 7, n, 1);
      Edge.refusedFar(-6, call, 0, 7, n, 2);
    }
    for (int odd : NO_BIT) {
      Edge.refusedFar(-2, call, 0, 7, 1, odd);
      Edge.refusedFar(-2, call, 0, 1, 12, odd);
    }
  }

  private static void proof() {
    Sentences.tries(18, "`int proof");
    FormsAboveNought x = Due.with("a^2-7ab+21b^2", "a^2-8ab+30b^2", "a^2-8ab+27b^2", "a-b");
    for (int form = 0; form < 4; form++) Edge.is(x, new int[] {0, 1, 3, 2}[form], "proof", form, 3);
    int[] bySide = {0, 2, 2, 1, 1, 2, 2};
    for (int side = 1; side <= 7; side++) Edge.is(x, bySide[side - 1], "proof", 3, side);

    Sentences.tries(18, "-1 (FORM, SIDE)");
    for (int form : NO_FORM) {
      Edge.refused(-1, "proof", form, 7);
      Edge.refused(-1, "proof", form, 0);
    }
    for (int side : NO_SIDE) Edge.refused(-1, "proof", 3, side);
  }
}
