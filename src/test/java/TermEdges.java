/** Edges of the head "Terms" up to the proofs: degrees, terms, kinds, sides, lifted forms, points. */
final class TermEdges {
  private static final int[] SIDES = {1, 2, 3, 4, 5, 6, 7};

  private TermEdges() {
  }

  static void all() {
    callsOfAnObject();
    degrees();
    numbersOfTerms();
    numbersOfForms();
    plain();
    turned();
    even();
    less();
    twice();
    flat();
    sides();
    lifted();
    clear();
    leastLift();
    firstFault();
    points();
    value();
    failing();
    lowest();
    share();
    proof();
  }

  private static void tries(String words) {
    Sentences.tries("Terms", words);
  }

  /** The letters of one member without a number; 1 if all powers are 0. */
  private static String member(int i, int j, int k) {
    String text = power("a", i) + power("b", j) + power("c", k);
    return text.isEmpty() ? "1" : text;
  }

  private static String power(String letter, int power) {
    return power == 0 ? "" : letter + "^" + power;
  }

  private static void callsOfAnObject() {
    Sentences.tries("What it is", "An object is used for at most 512 calls");
    FormsAboveNought x = Due.with("a");
    for (int call = 3; call < 511; call++) x.change(0, 2, call);
    Due.is("the 511th call", x.undo(), 15);
    Due.is("the 512th call", x.coefficient(0, 2), 509);
  }

  private static void degrees() {
    tries("A FORM of DEGREE D (0 .. 6)");
    for (int degree = 0; degree <= 6; degree++) {
      FormsAboveNought x = Due.with(member(0, 0, degree));
      int terms = new int[] {1, 3, 6, 10, 15, 21, 28}[degree];
      Due.is("degree", x.of(0, 2), degree);
      Due.is("how many terms of degree " + degree, x.of(0, 3), terms);
      for (int t = 0; t < terms - 1; t++) Due.is("one that is not told", x.coefficient(0, t), 0);
      Due.is("the last of degree " + degree, x.coefficient(0, terms - 1), 1);
      Due.is("none behind it", x.coefficient(0, terms), Due.FAR_INT + 1);
      Due.is("none ahead", x.coefficient(0, -1), Due.FAR_INT + 1);
    }
    Due.is("no degree 7", Due.form(new FormsAboveNought(), "a^6b"), -1003);
  }

  private static void numbersOfTerms() {
    tries("TERMS have numbers, from 0 on");
    for (int degree = 0; degree <= 6; degree++) {
      int number = 0;
      for (int i = degree; i >= 0; i--) {
        for (int j = degree - i; j >= 0; j--) {
          FormsAboveNought x = Due.with(member(i, j, degree - i - j));
          for (int t = 0; t < x.of(0, 3); t++) {
            Due.is(Due.spelling(x, 0) + " at " + t, x.coefficient(0, t), t == number ? 1 : 0);
          }
          number++;
        }
      }
      Due.is("terms of degree " + degree, number, (degree + 1) * (degree + 2) / 2);
    }
  }

  private static void numbersOfForms() {
    tries("FORMS have numbers, 0 .. as they come, 6 at most");
    FormsAboveNought x = Due.with("a", "b", "c", "1", "2", "3");
    Due.is("six", x.count(0), 6);
    Due.is("a seventh", Due.form(x, "4"), -6);
    Due.is("the sixth goes", x.drop(), 5);
    Due.is("its number comes again", x.form(), 5);
    Due.is("as another", x.coefficient(5, 0), 4);
    x.change(5, 0, 44);
    x.turn(5, 3, 9);
    x.drop();
    Due.is("where another was, changed and turned", Due.form(x, "c"), 5);
    Due.is("there is but the new one", Due.spelling(x, 5), "c");
    for (int form = 0; form < 6; form++) {
      Due.is("kind of a new one", x.of(form, 0), 0);
      Due.is("figure of a new one", x.of(form, 1), 0);
    }
    x.turn(0, 3, 9);
    Due.is("figure 9", x.of(0, 1), 9);
    x.turn(0, 3, 0);
    Due.is("figure 0", x.of(0, 1), 0);
    x.change(0, 2, -1000000);
    Due.is("told -1000000", x.coefficient(0, 2), -1000000);
    x.change(0, 2, 1000000);
    Due.is("told 1000000", x.coefficient(0, 2), 1000000);
  }

  /** A form of degree 6 (corners 1, 2, 3) and one of degree 0, of a kind: their coefficients. */
  private static void corners(int kind, int a, int b, int c, int number) {
    FormsAboveNought x = Due.with("a^6+2b^6+3c^6", "5");
    for (int form = 0; form < 2; form++) x.turn(form, kind, 9);
    Due.is("a^6 of kind " + kind, x.coefficient(0, 0), a);
    Due.is("b^6 of kind " + kind, x.coefficient(0, 21), b);
    Due.is("c^6 of kind " + kind, x.coefficient(0, 27), c);
    Due.is("a number of kind " + kind, x.coefficient(1, 0), number);
  }

  private static void plain() {
    tries("COEFFICIENTS by KIND: 0 PLAIN");
    corners(0, 1, 2, 3, 5);
  }

  private static void turned() {
    tries("1 TURNED under PLAIN");
    corners(1, 3, 1, 2, 5);
  }

  private static void even() {
    tries("2 EVEN under PLAIN");
    corners(2, 1, 2, 3, 5);
    for (int i = 0; i <= 6; i++) {
      FormsAboveNought x = Due.with(member(i, 0, 6 - i));
      x.turn(0, 2, 0);
      Due.is("power of a " + i, Due.spelling(x, 0), i % 2 == 1 ? "0" : member(i, 0, 6 - i));
    }
  }

  private static void less() {
    tries("3 LESS under PLAIN");
    corners(3, -8, -7, -6, -4);
    FormsAboveNought x = Due.with("0a+9b");
    x.change(0, 2, -1000000);
    x.turn(0, 3, 9);
    Due.is("9 less than nought", x.coefficient(0, 0), -9);
    Due.is("9 less than 9", x.coefficient(0, 1), 0);
    Due.is("9 less than the least", x.coefficient(0, 2), -1000009);
    x.change(0, 2, 1000000);
    Due.is("9 less than the most", x.coefficient(0, 2), 999991);
    x.turn(0, 3, 0);
    Due.is("0 less", x.coefficient(0, 2), 1000000);
  }

  private static void twice() {
    tries("4 TWICE under TURNED");
    corners(4, 2, 3, 1, 5);
  }

  private static void flat() {
    tries("5 FLAT under EVEN");
    corners(5, 1, 2, 0, 5);
    for (int i = 0; i <= 6; i++) {
      FormsAboveNought x = Due.with(member(i, 6 - i, 0));
      x.turn(0, 5, 0);
      Due.is("without c, power of a " + i, x.of(0, 4), i % 2 == 1 ? 28 : 27);
    }
    FormsAboveNought x = Due.with("a^4bc+b^5c+a^2c^4");
    x.turn(0, 5, 0);
    Due.is("c to the power 1 or more", x.of(0, 4), 28);
  }

  private static void sides() {
    tries("==== 2 A SIDE is a set of LETTERS (bits 1 .. 7)");
    String[] on = {"a^2", "b^2", "a^2+ab+b^2", "c^2", "a^2+ac+c^2", "b^2+bc+c^2", "a^2+ab+ac+b^2+bc+c^2"};
    for (int side : SIDES) {
      FormsAboveNought x = Due.with("a^2+ab+ac+b^2+bc+c^2", "-8", "abc");
      Due.is("on side " + side, x.on(0, side), 3);
      Due.is("the form on side " + side, Due.spelling(x, 3), on[side - 1]);
      x.on(1, side);
      Due.is("a number on side " + side, Due.spelling(x, 4), "-8");
      x.on(2, side);
      Due.is("abc on side " + side, Due.spelling(x, 5), side == 7 ? "abc" : "0");
    }
    FormsAboveNought x = Due.with("a");
    Due.is("side 0", x.proof(0, 0), -1);
    Due.is("side 8", x.proof(0, 8), -1);
  }

  private static void lifted() {
    tries("LIFTED by n (0 .. 12), on a SIDE");
    FormsAboveNought x = Due.with("5", "a^6-2b^6+3c^6");
    int[] first = {1, -2, 1, 3, 1, -2, 1};
    int[] last = {1, -2, -2, 3, 3, 3, 3};
    for (int side : SIDES) {
      int letters = Integer.bitCount(side);
      int[] terms = {1, letters == 1 ? 1 : letters == 2 ? 13 : 91, letters == 1 ? 1 : letters == 2 ? 19 : 190};
      ends(x, 0, side, 0, 1, 5, 5);
      ends(x, 0, side, 12, terms[1], 5, 5);
      ends(x, 1, side, 0, letters == 1 ? 1 : letters == 2 ? 7 : 28, first[side - 1], last[side - 1]);
      ends(x, 1, side, 12, terms[2], first[side - 1], last[side - 1]);
    }
    Due.is("5 times (a + b)^12 at a^6 b^6", x.lifted(0, 3, 12, 6), 5 * 924);
    Due.is("5 times (b + c)^12 at b c^11", x.lifted(0, 6, 12, 11), 5 * 12);
    Due.is("5 times (a + c)^12 at a^10 c^2", x.lifted(0, 5, 12, 2), 5 * 66);
    Due.is("5 times (a + b + c)^12 at a^4 b^4 c^4", x.lifted(0, 7, 12, 40), 5 * 34650);
  }

  /** The first and the last of so many terms, and none behind it. */
  private static void ends(FormsAboveNought x, int form, int side, int n, int terms, long first, long last) {
    Edge.is(x, first, "lifted", form, side, n, 0);
    Edge.is(x, last, "lifted", form, side, n, terms - 1);
    Edge.is(x, Due.FAR + 1, "lifted", form, side, n, terms);
  }

  private static void clear() {
    tries("It is CLEAR by SORT 0");
    FormsAboveNought x = Due.with("0", "1", "-1", "a+b+c", "a+b", "a+b-c");
    int[] bySort0 = {-9, -9, 0, -9, -9, 2};
    int[] bySort1 = {0, -9, 0, -9, 2, 2};
    for (int form = 0; form < 6; form++) {
      Edge.is(x, bySort0[form], "fault", form, 7, 0, 0);
      Edge.is(x, bySort1[form], "fault", form, 7, 0, 1);
    }
    Due.is("bits of the clear ones", x.count(4), 0b011011);
  }

  private static void leastLift() {
    tries("LEAST n: by which it is CLEAR; -9");
    String[] sides = {"", "", "", "ab", "", "ac", "bc"};
    for (int side : new int[] {3, 5, 6}) {
      String x = sides[side].substring(0, 1);
      String y = sides[side].substring(1);
      FormsAboveNought f = Due.with(x + "^2+" + y + "^2", x + "^2-7" + x + y + "+21" + y + "^2",
          x + "^2-8" + x + y + "+30" + y + "^2", x + "^2-8" + x + y + "+27" + y + "^2",
          x + "^2+" + x + y + "+" + y + "^2", "0" + x);
      int[] bySort0 = {0, 12, 12, -9, 0, 0};
      int[] bySort1 = {1, 12, -9, -9, 0, -9};
      for (int form = 0; form < 6; form++) {
        Edge.is(f, bySort0[form], "least", form, side, 0);
        Edge.is(f, bySort1[form], "least", form, side, 1);
      }
    }
    FormsAboveNought f = Due.with("a^2-7ab+21b^2+99ac+99bc+c^2", "a^2-8ab+30b^2+99ac+99bc+c^2",
        "a^2-8ab+27b^2+99ac+99bc+c^2", "1", "0", "-1");
    int[] bySort0 = {12, 12, -9, 0, 0, -9};
    int[] bySort1 = {12, -9, -9, 0, -9, -9};
    for (int form = 0; form < 6; form++) {
      Edge.is(f, bySort0[form], "least", form, 7, 0);
      Edge.is(f, bySort1[form], "least", form, 7, 1);
    }
  }

  private static void firstFault() {
    tries("FIRST FAULT: the first TERM by which it isn't; -9");
    FormsAboveNought x = Due.with("a^6");
    for (int term = 0; term < 28; term++) x.change(0, term, 1000);
    Edge.is(x, -9, "fault", 0, 7, 12, 1);
    x.change(0, 27, 0);
    Edge.is(x, -9, "fault", 0, 7, 12, 0);
    Edge.is(x, 189, "fault", 0, 7, 12, 1);
    x.change(0, 27, -1);
    Edge.is(x, 189, "fault", 0, 7, 12, 0);
    Edge.is(x, 18, "fault", 0, 6, 12, 0);
    Edge.is(x, 18, "fault", 0, 5, 12, 0);
    Edge.is(x, 0, "fault", 0, 4, 12, 0);
    Edge.is(x, -9, "fault", 0, 3, 12, 0);
    x.change(0, 21, -1);
    Edge.is(x, 18, "fault", 0, 3, 12, 0);
    Edge.is(x, 0, "fault", 0, 6, 12, 0);
    Edge.is(x, 171, "fault", 0, 7, 12, 0);
    x.change(0, 0, -1);
    Edge.is(x, 0, "fault", 0, 7, 12, 0);
    Edge.is(x, 0, "fault", 0, 7, 0, 0);
  }

  private static void points() {
    tries("POINTS of size n (1 .. 12) on a SIDE");
    for (int side : SIDES) {
      for (int n = 1; n <= 12; n++) {
        int number = 0;
        for (int x = n; x >= 0; x--) {
          for (int y = n - x; y >= 0; y--) {
            int z = n - x - y;
            boolean isOn = (x == 0 || (side & 1) != 0) && (y == 0 || (side & 2) != 0) && (z == 0 || (side & 4) != 0);
            if (isOn) point(side, n, number++, x, y, z);
          }
        }
      }
    }
  }

  /** A form that is 0 at this point alone: (ay - bx)^2 + (az - cx)^2 + (bz - cy)^2. */
  private static void point(int side, int n, int number, int x, int y, int z) {
    FormsAboveNought f = Due.with("a^2");
    f.change(0, 0, y * y + z * z);
    f.change(0, 1, -2 * x * y);
    f.change(0, 2, -2 * x * z);
    f.change(0, 3, x * x + z * z);
    f.change(0, 4, -2 * y * z);
    f.change(0, 5, x * x + y * y);
    Edge.is(f, number, "lowest", 0, side, n, 1);
    Edge.is(f, 0, "lowest", 0, side, n, 0);
  }

  private static void value() {
    tries("VALUE of a FORM at whole numbers");
    FormsAboveNought x = Due.with("-7", "a+2b+4c", "b^6", "a^2b", "3c^3");
    Edge.is(x, -7, "value", 0, 0, 0, 0);
    Edge.is(x, 0, "value", 1, 0, 0, 0);
    Edge.is(x, 1, "value", 1, 1, 0, 0);
    Edge.is(x, 2, "value", 1, 0, 1, 0);
    Edge.is(x, 4, "value", 1, 0, 0, 1);
    Edge.is(x, 2985984, "value", 2, 0, 12, 0);
    Edge.is(x, 0, "value", 2, 12, 0, 12);
    Edge.is(x, 0, "value", 3, 0, 5, 5);
    Edge.is(x, 0, "value", 3, 5, 0, 5);
    Edge.is(x, 24, "value", 4, 0, 0, 2);
    FormsAboveNought most = Due.with("a^6");
    for (int term = 0; term < 28; term++) most.change(0, term, -1000000);
    most.turn(0, 3, 9);
    Edge.is(most, -1000009L * 2985984 * 28, "value", 0, 12, 12, 12);
  }

  /** 1000 (ma - kb)^2 - (a + b)^2 + 1000 c^2: of points up to size 13 the first below 0 is k, m, 0. */
  private static FormsAboveNought belowAt(int k, int m) {
    FormsAboveNought x = Due.with("ab");
    x.change(0, 0, 1000 * m * m - 1);
    x.change(0, 1, -2000 * k * m - 2);
    x.change(0, 3, 1000 * k * k - 1);
    x.change(0, 5, 1000);
    return x;
  }

  /** (ma - kb)^2 + c^2: the first that is not above 0 is k, m, 0. */
  private static FormsAboveNought noughtAt(int k, int m) {
    FormsAboveNought x = Due.with("ab");
    x.change(0, 0, m * m);
    x.change(0, 1, -2 * k * m);
    x.change(0, 3, k * k);
    x.change(0, 5, 1);
    return x;
  }

  private static void failing() {
    tries("FAILING by SORT: the least size n for which a POINT has a VALUE below 0 (SORT 0)");
    for (int side : new int[] {3, 7}) {
      int number = side == 3 ? 7 : 28;
      fails(belowAt(5, 7), side, 12, number, 12, number);
      fails(noughtAt(5, 7), side, -9, -9, 12, number);
      fails(belowAt(5, 8), side, -9, -9, -9, -9);
      fails(noughtAt(5, 8), side, -9, -9, -9, -9);
      fails(belowAt(1, 0), side, 1, 0, 1, 0);
      fails(noughtAt(1, 0), side, -9, -9, 1, 0);
      fails(belowAt(0, 1), side, 1, 1, 1, 1);
      fails(belowAt(1, 1), side, 2, 1, 2, 1);
    }
    fails(Due.with("0"), 7, -9, -9, 1, 0);
    fails(Due.with("a+b-c"), 7, 1, 2, 1, 2);
    fails(Due.with("a+b"), 4, -9, -9, 1, 0);
    fails(Due.with("1"), 7, -9, -9, -9, -9);
    // no point has a number below 0: of each letter none has a value below 0, on any side
    for (int side : SIDES) {
      for (int letter = 0; letter <= 2; letter++) {
        FormsAboveNought x = Due.with(new String[] {"a", "b", "c"}[letter]);
        Edge.is(x, -9, "failing", 0, side, 0, 0);
        Edge.is(x, -9, "failing", 0, side, 0, 1);
        Edge.is(x, side == 1 << letter ? -9 : 1, "failing", 0, side, 1, 0);
      }
    }
  }

  private static void fails(FormsAboveNought x, int side, int n0, int point0, int n1, int point1) {
    Edge.is(x, n0, "failing", 0, side, 0, 0);
    Edge.is(x, point0, "failing", 0, side, 0, 1);
    Edge.is(x, n1, "failing", 0, side, 1, 0);
    Edge.is(x, point1, "failing", 0, side, 1, 1);
  }

  private static void lowest() {
    tries("LOWEST at size n");
    FormsAboveNought x = Due.with("-7", "abc", "a+b-c", "b^2-2bc+c^2", "a-b");
    for (int side : SIDES) {
      Edge.is(x, -7, "lowest", 0, side, 12, 0);
      Edge.is(x, 0, "lowest", 0, side, 12, 1);
      Edge.is(x, 0, "lowest", 1, side, 1, 1);
    }
    Edge.is(x, -1, "lowest", 2, 7, 1, 0);
    Edge.is(x, 2, "lowest", 2, 7, 1, 1);
    Edge.is(x, -12, "lowest", 2, 7, 12, 0);
    Edge.is(x, 90, "lowest", 2, 7, 12, 1);
    Edge.is(x, 0, "lowest", 3, 7, 12, 0);
    Edge.is(x, 0, "lowest", 3, 7, 12, 1);
    Edge.is(x, 6, "lowest", 3, 6, 12, 1);
    Edge.is(x, 1, "lowest", 3, 6, 11, 0);
    Edge.is(x, 5, "lowest", 3, 6, 11, 1);
    Edge.is(x, -12, "lowest", 4, 7, 12, 0);
    Edge.is(x, 78, "lowest", 4, 7, 12, 1);
    FormsAboveNought most = Due.with("a^6");
    most.change(0, 27, -1000000);
    Edge.is(most, -2985984000000L, "lowest", 0, 7, 12, 0);
  }

  private static void share() {
    tries("SHARE: how many POINTS of size n");
    FormsAboveNought x = Due.with("7", "-7", "0", "abc", "a");
    for (int side : SIDES) {
      part(x, 0, side, 12, 1, 1);
      part(x, 1, side, 12, 0, 1);
      part(x, 2, side, 1, 0, 1);
    }
    part(x, 3, 7, 1, 0, 1);
    part(x, 3, 7, 2, 0, 1);
    part(x, 3, 7, 3, 1, 10);
    part(x, 3, 7, 12, 55, 91);
    part(x, 4, 7, 1, 1, 3);
    part(x, 4, 3, 1, 1, 2);
    part(x, 4, 3, 12, 12, 13);
    part(x, 4, 1, 12, 1, 1);
    part(x, 4, 6, 12, 0, 1);
  }

  private static void part(FormsAboveNought x, int form, int side, int n, long above, long below) {
    Edge.is(x, above, "share", form, side, n, 0);
    Edge.is(x, below, "share", form, side, n, 1);
  }

  private static void proof() {
    tries("PROOF: 0 LIFTED by some n (0 .. 12)");
    FormsAboveNought x = Due.with("a^2-7ab+21b^2", "a^2-8ab+30b^2", "a^2-8ab+27b^2", "1", "0", "-1");
    int[] due = {0, 1, 3, 0, 1, 2};
    for (int form = 0; form < 6; form++) Edge.is(x, due[form], "proof", form, 3);
    Due.is("fails at size 12", belowAt(5, 7).proof(0, 3), 2);
    Due.is("fails at size 13", belowAt(5, 8).proof(0, 3), 3);
    Due.is("fails at size 12, not at the corner c", belowAt(5, 7).proof(0, 4), 0);
    Due.is("nought at size 12", noughtAt(5, 7).proof(0, 3), 3);
    Due.is("nought at the corner a", Due.with("ab+b^2").proof(0, 3), 1);
  }
}
