/** Promises 12 to 18: forms lifted, their faults, points at which they fail, proofs. */
public final class LiftedTest {
  public static void main(String[] args) {
    lifted();
    liftedOnSides();
    liftedRefused();
    faults();
    faultRefused();
    leasts();
    leastRefused();
    failing();
    failingRefused();
    lowest();
    shares();
    pointsRefused();
    proofs();
    Due.end();
  }

  private static void lifted() {
    FormsAboveNought x = Due.with("a-b", "-7");
    cells(x, 0, 7, 0, 1, -1, 0);
    cells(x, 0, 7, 1, 1, 0, 1, -1, -1, 0);
    cells(x, 0, 7, 2, 1, 1, 2, -1, 0, 1, -1, -2, -1, 0);
    cells(x, 1, 7, 0, -7);
    cells(x, 1, 7, 1, -7, -7, -7);
    cells(x, 1, 7, 2, -7, -14, -14, -7, -14, -7);
    FormsAboveNought y = Due.with("a^6");
    y.change(0, 0, 1000000);
    Due.is("the most: first", y.lifted(0, 7, 12, 0), 1000000);
    Due.is("the most: a^6 b^6 c^6", y.lifted(0, 7, 12, 12 * 13 / 2 + 6), 924000000);
    Due.is("the most: last", y.lifted(0, 7, 12, 189), 0);
    Due.is("the most: none", y.lifted(0, 7, 12, 190), Due.FAR + 1);
    y.turn(0, 3, 1);
    Due.is("the most, less: last", y.lifted(0, 7, 12, 189), -1);
  }

  private static void liftedOnSides() {
    FormsAboveNought x = Due.with("a^2+2ab+3ac+4b^2+5bc+6c^2");
    cells(x, 0, 1, 0, 1);
    cells(x, 0, 2, 0, 4);
    cells(x, 0, 4, 0, 6);
    cells(x, 0, 3, 0, 1, 2, 4);
    cells(x, 0, 5, 0, 1, 3, 6);
    cells(x, 0, 6, 0, 4, 5, 6);
    cells(x, 0, 1, 12, 1);
    cells(x, 0, 2, 12, 4);
    cells(x, 0, 4, 12, 6);
    cells(x, 0, 3, 1, 1, 3, 6, 4);
    cells(x, 0, 5, 1, 1, 4, 9, 6);
    cells(x, 0, 6, 1, 4, 9, 11, 6);
    cells(x, 0, 6, 2, 4, 13, 20, 17, 6);
    x.turn(0, 3, 2);
    cells(x, 0, 3, 0, -1, 0, 2);
    cells(x, 0, 5, 1, -1, 0, 5, 4);
    x.turn(0, 1, 0);
    cells(x, 0, 3, 0, 6, 3, 1);
  }

  private static void cells(FormsAboveNought x, int form, int side, int n, long... due) {
    String call = "lifted(" + form + ", " + side + ", " + n + ", ";
    for (int t = 0; t < due.length; t++) Due.is(call + t + ")", x.lifted(form, side, n, t), due[t]);
    Due.is(call + due.length + ")", x.lifted(form, side, n, due.length), Due.FAR + 1);
    Due.is(call + "-1)", x.lifted(form, side, n, -1), Due.FAR + 1);
  }

  private static void liftedRefused() {
    FormsAboveNought x = Due.with("a-b");
    Due.is("no form", x.lifted(1, 7, -1, 0), Due.FAR + 1);
    Due.is("no side 0", x.lifted(0, 0, 13, 0), Due.FAR + 1);
    Due.is("no side 8", x.lifted(0, 8, 0, 0), Due.FAR + 1);
    Due.is("n below", x.lifted(0, 7, -1, -1), Due.FAR + 4);
    Due.is("n above", x.lifted(0, 7, 13, -1), Due.FAR + 6);
    Due.is("no term", x.lifted(0, 7, 12, 105), Due.FAR + 1);
    Due.refusals("lifted", x, 4, 0, 0, 1, 0, 1);
  }

  private static void faults() {
    FormsAboveNought x = Due.with("a-b", "a", "3");
    fault(x, 0, 7, 0, 1, 1);
    fault(x, 0, 7, 1, 3, 1);
    fault(x, 0, 7, 2, 3, 3);
    fault(x, 0, 3, 0, 1, 1);
    fault(x, 0, 3, 1, 2, 1);
    fault(x, 0, 5, 0, -9, 1);
    fault(x, 0, 5, 12, -9, 13);
    fault(x, 0, 6, 0, 0, 0);
    fault(x, 0, 1, 5, -9, -9);
    fault(x, 0, 2, 5, 0, 0);
    fault(x, 0, 4, 5, -9, 0);
    fault(x, 1, 7, 12, -9, 91);
    fault(x, 2, 7, 12, -9, -9);
  }

  private static void fault(FormsAboveNought x, int form, int side, int n, int below, int notAbove) {
    String call = "fault(" + form + ", " + side + ", " + n + ", ";
    Due.is(call + "0)", x.fault(form, side, n, 0), below);
    Due.is(call + "1)", x.fault(form, side, n, 1), notAbove);
  }

  private static void faultRefused() {
    FormsAboveNought x = Due.with("a-b");
    Due.is("no form", x.fault(1, 7, 0, 2), -1);
    Due.is("no side 0", x.fault(0, 0, 0, 2), -1);
    Due.is("no side 8", x.fault(0, 8, 0, 2), -1);
    Due.is("no sort", x.fault(0, 7, -1, 2), -2);
    Due.is("sort below", x.fault(0, 7, 13, -1), -2);
    Due.is("n below", x.fault(0, 7, -1, 0), -4);
    Due.is("n above", x.fault(0, 7, 13, 0), -6);
    Due.refusals("fault", x, 3, 2, 0, 1, 0, 1);
  }

  private static void leasts() {
    FormsAboveNought x = Due.with("a^2-ab+b^2", "2a^2-3ab+2b^2", "a-b", "0", "5", "7a^2-13ab+7b^2");
    least(x, 0, 3, 1, 3);
    least(x, 0, 7, -9, -9);
    least(x, 0, 1, 0, 0);
    least(x, 0, 4, 0, -9);
    least(x, 1, 3, 5, 7);
    least(x, 2, 7, -9, -9);
    least(x, 2, 1, 0, 0);
    least(x, 2, 2, -9, -9);
    least(x, 2, 5, 0, -9);
    least(x, 3, 7, 0, -9);
    least(x, 4, 7, 0, 0);
    least(x, 5, 3, -9, -9);
    least(x, 5, 1, 0, 0);
    FormsAboveNought y = Due.with("a^2-7ab+21b^2", "a^2-8ab+30b^2", "a^2-4ab+6b^2");
    least(y, 0, 3, 12, 12);
    least(y, 1, 3, 12, -9);
    least(y, 2, 3, 10, 12);
  }

  private static void least(FormsAboveNought x, int form, int side, int sort0, int sort1) {
    Due.is("least(" + form + ", " + side + ", 0)", x.least(form, side, 0), sort0);
    Due.is("least(" + form + ", " + side + ", 1)", x.least(form, side, 1), sort1);
  }

  private static void leastRefused() {
    FormsAboveNought x = Due.with("a-b");
    Due.is("no form", x.least(-1, 7, 2), -1);
    Due.is("no side 0", x.least(0, 0, 2), -1);
    Due.is("no side 8", x.least(0, 8, 2), -1);
    Due.is("no sort", x.least(0, 7, 2), -2);
    Due.is("sort below", x.least(0, 7, -1), -2);
    Due.refusals("least", x, 3, 2, 0, 0, 0, 0);
  }

  private static void failing() {
    FormsAboveNought x = Due.with("a^2-2ab+b^2", "2a^2-5ab+2b^2+c^2", "-2", "12a-b-c", "4a^2-4ab+b^2", "a-11b");
    fails(x, 0, 7, -9, -9, 1, 2);
    fails(x, 0, 3, -9, -9, 2, 1);
    fails(x, 0, 6, -9, -9, 1, 1);
    fails(x, 0, 4, -9, -9, 1, 0);
    fails(x, 0, 1, -9, -9, -9, -9);
    fails(x, 1, 7, 2, 1, 2, 1);
    fails(x, 1, 5, -9, -9, -9, -9);
    fails(x, 2, 7, 1, 0, 1, 0);
    fails(x, 2, 2, 1, 0, 1, 0);
    fails(x, 3, 7, 1, 1, 1, 1);
    fails(x, 3, 1, -9, -9, -9, -9);
    fails(x, 3, 6, 1, 0, 1, 0);
    fails(x, 4, 3, -9, -9, 3, 2);
    x.change(5, 0, 11);
    x.change(5, 1, 11);
    x.change(5, 2, 11);
    fails(x, 5, 7, -9, -9, -9, -9);
    Due.is("drop", x.drop(), 5);
    Due.is("a late one", Due.form(x, "900a^2-961ab+255b^2"), 5);
    fails(x, 5, 3, 3, 2, 3, 2);
    Due.is("drop", x.drop(), 5);
    Due.is("a later one", Due.form(x, "35a^2-98ab+68b^2"), 5);
    fails(x, 5, 3, 5, 2, 5, 2);
    Due.is("drop", x.drop(), 5);
    Due.is("the last one", Due.form(x, "35a^2-24ab+4b^2"), 5);
    fails(x, 5, 3, 4, 3, 4, 3);
    FormsAboveNought y = Due.with("49a^2-70ab+25b^2", "a^2");
    fails(y, 0, 3, -9, -9, 12, 7);
    y.change(1, 0, 4899);
    y.change(1, 1, -7002);
    y.change(1, 3, 2499);
    fails(y, 1, 3, 12, 7, 12, 7);
  }

  private static void fails(FormsAboveNought x, int form, int side, int... due) {
    for (int n = 0; n < 4; n++) {
      String call = "failing(" + form + ", " + side + ", " + n / 2 + ", " + n % 2 + ")";
      Due.is(call, x.failing(form, side, n / 2, n % 2), due[n]);
    }
  }

  private static void failingRefused() {
    FormsAboveNought x = Due.with("a-b");
    Due.is("no form", x.failing(1, 7, 2, 2), -1);
    Due.is("no side 0", x.failing(0, 0, 2, 2), -1);
    Due.is("no side 8", x.failing(0, 8, 2, 2), -1);
    Due.is("no sort", x.failing(0, 7, 2, 0), -2);
    Due.is("sort below", x.failing(0, 7, -1, 0), -2);
    Due.is("no what", x.failing(0, 7, 0, 2), -2);
    Due.is("what below", x.failing(0, 7, 0, -1), -2);
    Due.refusals("failing", x, 3, 4, 0, 0, 0, 0);
  }

  private static void lowest() {
    FormsAboveNought x = Due.with("a^2-2ab+b^2", "-3", "a+b-c", "a^6");
    low(x, 0, 7, 1, 0, 2);
    low(x, 0, 3, 1, 1, 0);
    low(x, 0, 3, 2, 0, 1);
    low(x, 0, 7, 2, 0, 1);
    low(x, 1, 7, 12, -3, 0);
    low(x, 2, 7, 12, -12, 90);
    low(x, 2, 3, 12, 12, 0);
    low(x, 2, 5, 12, -12, 12);
    low(x, 2, 6, 3, -3, 3);
    low(x, 2, 1, 3, 3, 0);
    low(x, 2, 4, 3, -3, 0);
    low(x, 3, 1, 12, 2985984, 0);
    x.change(2, 0, -5);
    low(x, 2, 7, 12, -60, 0);
  }

  private static void low(FormsAboveNought x, int form, int side, int n, long value, int point) {
    String call = "lowest(" + form + ", " + side + ", " + n + ", ";
    Due.is(call + "0)", x.lowest(form, side, n, 0), value);
    Due.is(call + "1)", x.lowest(form, side, n, 1), point);
  }

  private static void shares() {
    FormsAboveNought x = Due.with("a-b", "-3", "5", "a^2-2ab+b^2");
    share(x, 0, 7, 1, 1, 3);
    share(x, 0, 7, 2, 1, 3);
    share(x, 0, 7, 3, 2, 5);
    share(x, 0, 3, 12, 6, 13);
    share(x, 0, 3, 11, 1, 2);
    share(x, 0, 5, 12, 12, 13);
    share(x, 0, 6, 12, 0, 1);
    share(x, 0, 1, 12, 1, 1);
    share(x, 0, 2, 12, 0, 1);
    share(x, 1, 7, 12, 0, 1);
    share(x, 2, 7, 12, 1, 1);
    share(x, 3, 7, 12, 12, 13);
  }

  private static void share(FormsAboveNought x, int form, int side, int n, long above, long below) {
    String call = "share(" + form + ", " + side + ", " + n + ", ";
    Due.is(call + "0)", x.share(form, side, n, 0), above);
    Due.is(call + "1)", x.share(form, side, n, 1), below);
  }

  private static void pointsRefused() {
    FormsAboveNought x = Due.with("a-b");
    int[][] wrong = {
      {1, 7, 0, 2, 1}, {-1, 7, 1, 0, 1}, {0, 0, 0, 2, 1}, {0, 8, 0, 2, 1},
      {0, 7, 0, 2, 4}, {0, 7, -1, 0, 4}, {0, 7, 13, 2, 6}, {0, 7, 13, 0, 6},
      {0, 7, 12, 2, 2}, {0, 7, 1, -1, 2},
    };
    for (int[] w : wrong) {
      Due.is("lowest refused", x.lowest(w[0], w[1], w[2], w[3]), Due.FAR + w[4]);
      Due.is("share refused", x.share(w[0], w[1], w[2], w[3]), Due.FAR + w[4]);
    }
    Due.refusals("points", x, 8, 4, 0, 4, 0, 4);
  }

  private static void proofs() {
    FormsAboveNought x = Due.with("a^2-ab+b^2+c^2", "a^2-ab+b^2", "a-b", "a^2-2ab+b^2", "0", "-1");
    Due.is("above", x.proof(0, 7), 0);
    Due.is("above on a side", x.proof(0, 3), 0);
    Due.is("nought at the corner c", x.proof(1, 7), 3);
    Due.is("on the corner c", x.proof(1, 4), 1);
    Due.is("on the corner b", x.proof(1, 2), 0);
    Due.is("a point fails", x.proof(2, 7), 2);
    Due.is("none on a", x.proof(2, 1), 0);
    Due.is("none on a, c", x.proof(2, 5), 1);
    Due.is("no point fails", x.proof(3, 3), 3);
    Due.is("nought", x.proof(4, 7), 1);
    Due.is("below", x.proof(5, 7), 2);
    Due.is("no form", x.proof(6, 7), -1);
    Due.is("no side 0", x.proof(0, 0), -1);
    Due.is("no side 8", x.proof(0, 8), -1);
    Due.refusals("proof", x, 3, 0, 0, 0, 0, 0);
  }
}
