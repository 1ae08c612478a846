/** Promises 19 to 28: walls, fractions, forms made of others, spelling, lots. */
public final class MadeTest {
  public static void main(String[] args) {
    walls();
    wallsRefused();
    wallsLeast();
    made();
    madeOfLoose();
    madeRefused();
    sums();
    products();
    lifts();
    negatives();
    onSides();
    spelled();
    lots();
    Due.end();
  }

  private static FormsAboveNought told(int... numbers) {
    FormsAboveNought x = new FormsAboveNought();
    x.list(1, numbers.length);
    for (int i = 0; i < numbers.length; i++) x.put(1, i, numbers[i]);
    return x;
  }

  private static void walls() {
    wall(told(), 0, 0);
    wall(told(), 2, 0, 0, 0);
    wall(told(5), 0, 5);
    wall(told(5), 3, 5, 15, 15, 5);
    wall(told(1, -1), 1, 1, 0);
    wall(told(1, -1), 2, 1, 1, 0);
    wall(told(1, -2, 2), 2, 1, 0, 1);
    wall(told(1, -2, 2, 0), 3, 1, 1, 1, 1);
    wall(told(0, 1), 4, 0, 1, 3, 3, 1);
    FormsAboveNought x = told(0, 0, 0, 0, 0, 0, 0, 0, 1000000);
    Due.is("the most", x.walls(1, 16, 12), 70000000);
    FormsAboveNought y = told(1, 2, 2000000, 4, 5, 6, 7, 8, 9);
    y.list(1, 2);
    y.put(1, 0, 4);
    wall(y, 3, 4, 12, 12, 4);
    Due.is("its last", x.walls(1, 16, 16), 1000000);
    Due.is("ahead", x.walls(1, 16, 7), 0);
    Due.is("most of a number", told(-1000000).walls(1, 16, 8), -12870000000L);
  }

  private static void wall(FormsAboveNought x, int d, long... due) {
    for (int i = 0; i <= d; i++) Due.is("walls(1, " + d + ", " + i + ")", x.walls(1, d, i), due[i]);
  }

  private static void wallsRefused() {
    FormsAboveNought x = told(1, 2, 3);
    Due.is("no list", x.walls(3, -1, 0), Due.FAR + 1);
    Due.is("list below", x.walls(-1, 17, 0), Due.FAR + 1);
    Due.is("d below", x.walls(0, -1, 17), Due.FAR + 4);
    Due.is("i below", x.walls(0, 17, -1), Due.FAR + 4);
    Due.is("d above", x.walls(0, 17, 17), Due.FAR + 6);
    Due.is("i above d", x.walls(0, 2, 3), Due.FAR + 6);
    Due.is("missing", x.walls(0, 2, 2), Due.FAR + 11);
    Due.is("d too small", x.walls(1, 1, 1), Due.FAR + 3);
    x.list(2, 10);
    Due.is("more than 9", x.walls(2, 16, 0), Due.FAR + 3);
    x.put(1, 2, 1000001);
    Due.is("one above", x.walls(1, 2, 0), Due.FAR + 3);
    x.put(1, 2, -1000001);
    Due.is("one below", x.walls(1, 2, 0), Due.FAR + 3);
    x.put(1, 2, -1000000);
    Due.is("the least", x.walls(1, 2, 2), -999997);
    Due.is("d too small, though they are 0", told(1, 0, 0).walls(1, 1, 0), Due.FAR + 3);
    Due.refusals("walls", x, 2, 0, 4, 2, 0, 2);
  }

  private static void wallsLeast() {
    wallsLeast(0, -9);
    wallsLeast(0, 0, 5);
    wallsLeast(-9, -9, -5);
    wallsLeast(0, -9, 0);
    wallsLeast(1, -9, 1, -1);
    wallsLeast(2, 3, 1, -2, 2);
    wallsLeast(3, 3, 1, -2, 2, 0);
    wallsLeast(7, 9, 2, -7, 7);
    wallsLeast(-9, -9, 1, -4, 4);
    wallsLeast(0, 0, 1000000);
    wallsLeast(8, -9, 0, 0, 0, 0, 0, 0, 0, 0, 1);
    wallsLeast(16, 16, 1, -11, 46);
    wallsLeast(16, -9, 1, -7, 15);
    wallsLeast(14, 16, 3, -12, 13);
    FormsAboveNought x = told(1);
    Due.is("no list", x.wallsLeast(3, 2), -1);
    Due.is("no sort", x.wallsLeast(0, 2), -2);
    Due.is("sort below", x.wallsLeast(0, -1), -2);
    Due.is("missing", x.wallsLeast(0, 0), -11);
    x.put(1, 0, 1000001);
    Due.is("one above", x.wallsLeast(1, 0), -3);
    x.put(1, 0, -1000001);
    Due.is("one below", x.wallsLeast(1, 0), -3);
    x.list(1, 10);
    Due.is("more than 9", x.wallsLeast(1, 0), -3);
    Due.refusals("wallsLeast", x, 1, 2, 3, 0, 0, 0);
  }

  private static void wallsLeast(int sort0, int sort1, int... numbers) {
    FormsAboveNought x = told(numbers);
    Due.is("wallsLeast(1, 0)", x.wallsLeast(1, 0), sort0);
    Due.is("wallsLeast(1, 1)", x.wallsLeast(1, 1), sort1);
  }

  private static void made() {
    FormsAboveNought x = Due.with("2a+4b", "3b-c", "5c", "a+b+c", "2a", "-99a+98b-97c");
    fractions(x, 3, 0b000111, 1, 2, -1, 3, 2, 15, 0, 1, 0, 1, 0, 1);
    fractions(x, 4, 0b000001, Due.FAR + 3, Due.FAR + 3);
    fractions(x, 4, 0b000111, 1, 1, -4, 3, -4, 15, 0, 1, 0, 1, 0, 1);
    fractions(x, 0, 0b010110, 0, 1, 4, 3, 4, 15, 0, 1, 1, 1, 0, 1);
    fractions(x, 5, 0b000111, -99, 2, 296, 3, 1, 3, 0, 1, 0, 1, 0, 1);
    Due.is("of itself not in the set", x.made(3, 7, 3, 0), 0);
    FormsAboveNought y = Due.with("97a^2+89ab-83b^2", "-79a^2+73bc", "71a^2-67ab+61b^2+59c^2", "18a^2+89ab-83b^2+73bc", "0", "8");
    fractions(y, 3, 0b000111, 1, 1, 1, 1, 0, 1);
    fractions(y, 3, 0b000101, Due.FAR + 3, Due.FAR + 3);
    FormsAboveNought z = Due.with("6", "-4", "0");
    fractions(z, 1, 1, -2, 3, 0, 1, 0, 1);
    fractions(z, 0, 2, 0, 1, -3, 2, 0, 1);
    fractions(z, 2, 1, 0, 1, 0, 1, 0, 1);
  }

  private static void madeOfLoose() {
    FormsAboveNought x = Due.with("a-a", "a+b", "2a+2b", "b", "3a+4b", "3a-3a");
    fractions(x, 4, 0b001011, 0, 1, 3, 1, 0, 1, 1, 1, 0, 1, 0, 1);
    fractions(x, 4, 0b001110, 0, 1, 3, 1, 0, 1, 1, 1, 0, 1, 0, 1);
    fractions(x, 4, 0b001100, 0, 1, 0, 1, 3, 2, 1, 1, 0, 1, 0, 1);
    fractions(x, 4, 0b000110, Due.FAR + 3, Due.FAR + 3);
    fractions(x, 4, 0b000001, Due.FAR + 3, Due.FAR + 3);
    fractions(x, 0, 0b100000, 0, 1, 0, 1, 0, 1, 0, 1, 0, 1, 0, 1);
    fractions(x, 0, 0b000110, 0, 1, 0, 1, 0, 1, 0, 1, 0, 1, 0, 1);
    fractions(x, 1, 0b010100, 0, 1, 0, 1, 1, 2, 0, 1, 0, 1, 0, 1);
  }

  /** The fractions of forms 0, 1, ..: what is above and what is below the line of each in turn. */
  private static void fractions(FormsAboveNought x, int form, int set, long... due) {
    for (int n = 0; n < due.length; n++) {
      String call = "made(" + form + ", " + set + ", " + n / 2 + ", " + n % 2 + ")";
      Due.is(call, x.made(form, set, n / 2, n % 2), due[n]);
    }
  }

  private static void madeRefused() {
    FormsAboveNought x = Due.with("a", "b", "c", "a+b", "a^2");
    Due.is("no form", x.made(5, 1, 0, 2), Due.FAR + 1);
    Due.is("set 0", x.made(3, 0, 0, 2), Due.FAR + 1);
    Due.is("set below", x.made(3, -1, 0, 2), Due.FAR + 1);
    Due.is("set of no form", x.made(3, 33, 0, 2), Due.FAR + 1);
    Due.is("set of just no form", x.made(3, 32, 0, 2), Due.FAR + 1);
    Due.is("no g", x.made(3, 3, 5, 2), Due.FAR + 1);
    Due.is("g below", x.made(3, 3, -1, 2), Due.FAR + 1);
    Due.is("no part", x.made(3, 8, 0, 2), Due.FAR + 2);
    Due.is("part below", x.made(3, 8, 0, -1), Due.FAR + 2);
    Due.is("itself in the set", x.made(3, 8, 0, 0), Due.FAR + 3);
    Due.is("of another degree", x.made(3, 19, 0, 0), Due.FAR + 3);
    Due.is("not made of it", x.made(3, 1, 0, 0), Due.FAR + 3);
    x.drop();
    Due.form(x, "c-a");
    Due.is("four of them", x.made(3, 0b10111, 0, 0), Due.FAR + 3);
    Due.is("three of them", x.made(3, 0b10110, 1, 0), 1);
    x.change(2, 0, 100);
    Due.is("one of 100", x.made(3, 7, 0, 0), Due.FAR + 3);
    x.change(2, 0, 99);
    Due.is("one of 99", x.made(3, 7, 0, 0), 1);
    x.change(2, 0, -100);
    Due.is("one of -100", x.made(3, 7, 0, 0), Due.FAR + 3);
    x.change(2, 0, -99);
    Due.is("one of -99", x.made(3, 7, 0, 0), 1);
    x.change(3, 2, -100);
    Due.is("its own", x.made(3, 7, 0, 0), Due.FAR + 3);
    x.change(3, 2, 100);
    Due.is("its own above", x.made(3, 7, 0, 0), Due.FAR + 3);
    x.turn(3, 3, 1);
    Due.is("it is coefficients that count", x.made(3, 7, 2, 0), 99);
    x.turn(3, 0, 0);
    x.change(3, 2, 99);
    Due.is("its own of 99", x.made(3, 7, 2, 0), 99);
    x.change(0, 0, 100);
    Due.is("the first of 100", x.made(3, 7, 2, 0), Due.FAR + 3);
    Due.refusals("made", x, 7, 2, 9, 0, 0, 0);
    FormsAboveNought y = Due.with("a^2", "b", "3b", "2b^6+4c^6", "b^6+2c^6");
    Due.is("the first of another degree", y.made(2, 3, 1, 0), Due.FAR + 3);
    Due.is("of degree 6", y.made(3, 16, 4, 0), 2);
    Due.is("of degree 6, below", y.made(4, 8, 3, 1), 2);
    Due.is("a sum of degree 6", y.sum(3, 4), 5);
    Due.is("its text", Due.spelling(y, 5), "3b^6+6c^6");
  }

  private static void sums() {
    FormsAboveNought x = Due.with("a-b", "2b+c", "a^2", "a");
    x.change(0, 2, 7);
    Due.is("sum", x.sum(0, 1), 4);
    Due.is("what a sum leaves", x.count(3), 0);
    Due.is("a sum", Due.spelling(x, 4), "a+b+8c");
    x.turn(4, 1, 3);
    x.turn(0, 3, 1);
    Due.is("sum by coefficients", x.sum(4, 0), 5);
    Due.is("a sum by coefficients", Due.spelling(x, 5), "8a-b+7c");
    Due.is("its kind", x.of(5, 0), 0);
    Due.is("its figure", x.of(5, 1), 0);
    Due.is("a seventh", x.sum(0, 1), -6);
    Due.is("a seventh of unlike ones", x.sum(0, 2), -3);
    Due.is("no one", x.sum(6, 0), -1);
    Due.is("no other", x.sum(0, -1), -1);
    x.drop();
    x.change(3, 0, 999999);
    Due.is("with itself", x.sum(3, 3), -6);
    x.change(1, 0, 1);
    Due.is("the most", x.sum(3, 1), 5);
    x.drop();
    x.change(1, 0, 2);
    Due.is("above the most", x.sum(3, 1), -6);
    x.change(3, 0, -999999);
    x.change(1, 0, -2);
    Due.is("below the least", x.sum(3, 1), -6);
    x.change(1, 0, -1);
    Due.is("refused leaves what there is", x.count(3), 4);
    Due.is("the least", x.sum(1, 3), 5);
    Due.refusals("sum", x, 2, 0, 1, 0, 0, 4);
  }

  private static void products() {
    FormsAboveNought x = Due.with("a-b", "a+b+c", "3", "a^3", "a^4");
    x.change(0, 2, 0);
    Due.is("product", x.product(0, 1), 5);
    Due.is("a product leaves none", x.count(3), 0);
    Due.is("a product", Due.spelling(x, 5), "a^2+ac-b^2-bc");
    Due.is("a seventh", x.product(0, 1), -6);
    Due.is("no one", x.product(6, 1), -1);
    Due.is("no other", x.product(1, 6), -1);
    x.drop();
    Due.is("degree 7", x.product(3, 4), -6);
    Due.is("degree 6", x.product(3, 3), 5);
    Due.is("a product of powers", Due.spelling(x, 5), "a^6");
    x.drop();
    Due.is("by a number", x.product(2, 0), 5);
    Due.is("a number's product", Due.spelling(x, 5), "3a-3b");
    x.drop();
    x.change(2, 0, 1000000);
    Due.is("the most", x.product(2, 1), 5);
    x.drop();
    x.change(1, 1, 2);
    Due.is("above the most", x.product(2, 1), -6);
    x.change(2, 0, -500001);
    Due.is("below the least", x.product(1, 2), -6);
    x.turn(0, 1, 0);
    x.turn(1, 3, 1);
    x.change(1, 1, 1);
    Due.is("by coefficients", x.product(0, 1), 5);
    Due.is("a product by coefficients", Due.spelling(x, 5), "0");
    x.drop();
    x.turn(1, 2, 0);
    Due.is("of kinds", x.product(0, 1), 5);
    Due.is("a product of kinds", Due.spelling(x, 5), "b^2-c^2");
    x.drop();
    x.turn(0, 1, 0);
    Due.is("of a turned one behind", x.product(2, 0), 5);
    Due.is("a product of a turned one", Due.spelling(x, 5), "-500001b+500001c");
    x.drop();
    Due.is("of turned ones", x.product(0, 0), 5);
    Due.is("a product of turned ones", Due.spelling(x, 5), "b^2-2bc+c^2");
    Due.refusals("product", x, 2, 0, 0, 0, 0, 4);
  }

  private static void lifts() {
    FormsAboveNought x = Due.with("a-b", "1", "a^5", "7c");
    x.change(3, 2, 7);
    Due.is("lift", x.lift(0, 1), 4);
    Due.is("a lift leaves none", x.count(3), 0);
    Due.is("a lift", Due.spelling(x, 4), "a^2+ac-b^2-bc");
    Due.is("lift by 0", x.lift(0, 0), 5);
    Due.is("a lift by 0", Due.spelling(x, 5), "a-b");
    Due.is("a seventh", x.lift(0, 0), -6);
    x.drop();
    Due.is("lift of a number", x.lift(1, 6), 5);
    Due.is("the middle", x.coefficient(5, 12), 90);
    Due.is("its degree", x.of(5, 2), 6);
    x.drop();
    Due.is("no form", x.lift(5, -1), -1);
    Due.is("n below", x.lift(0, -1), -4);
    Due.is("n above", x.lift(0, 7), -6);
    Due.is("n far above", x.lift(2, Integer.MAX_VALUE), -6);
    Due.is("degree 7", x.lift(2, 2), -6);
    Due.is("degree 6", x.lift(2, 1), 5);
    x.drop();
    x.change(0, 0, 500000);
    x.change(0, 1, 500001);
    Due.is("above the most", x.lift(0, 1), -6);
    x.change(0, 1, 500000);
    Due.is("the most", x.lift(0, 1), 5);
    x.drop();
    x.change(0, 0, 1);
    x.turn(0, 2, 0);
    x.change(0, 1, 3);
    Due.is("by coefficients", x.lift(0, 1), 5);
    Due.is("a lift by coefficients", Due.spelling(x, 5), "3ab+3b^2+3bc");
    Due.refusals("lift", x, 1, 0, 0, 1, 0, 5);
  }

  private static void negatives() {
    FormsAboveNought x = Due.with("a-2b", "a");
    x.turn(0, 3, 3);
    Due.is("negative", x.negative(0), 2);
    Due.is("a negative leaves none", x.count(3), 0);
    Due.is("a negative", Due.spelling(x, 2), "2a+5b+3c");
    Due.is("its kind", x.of(2, 0), 0);
    x.change(1, 0, -1000000);
    Due.is("the most", x.negative(1), 3);
    x.turn(1, 3, 1);
    Due.is("above the most", x.negative(1), -6);
    Due.is("of the most", x.negative(3), 4);
    Due.is("no form", x.negative(5), -1);
    x.negative(2);
    Due.is("a seventh", x.negative(0), -6);
    Due.refusals("negative", x, 1, 0, 0, 0, 0, 2);
  }

  private static void onSides() {
    String[] due = {"a^2", "4b^2", "a^2+2ab+4b^2", "6c^2", "a^2+3ac+6c^2", "4b^2+5bc+6c^2",
        "a^2+2ab+3ac+4b^2+5bc+6c^2"};
    FormsAboveNought x = Due.with("a^2+2ab+3ac+4b^2+5bc+6c^2", "9");
    for (int side = 1; side <= 7; side++) {
      x.change(0, 0, 1);
      Due.is("on " + side, x.on(0, side), 2);
      Due.is("on leaves none", x.count(3), 0);
      Due.is("the form on " + side, Due.spelling(x, 2), due[side - 1]);
      Due.is("its degree", x.of(2, 2), 2);
      x.drop();
      Due.is("a number on " + side, x.on(1, side), 2);
      Due.is("it stays", Due.spelling(x, 2), "9");
      x.drop();
    }
    x.turn(0, 3, 7);
    Due.is("by coefficients", x.on(0, 3), 2);
    Due.is("on by coefficients", Due.spelling(x, 2), "-6a^2-5ab-3b^2");
    x.change(0, 0, -999994);
    Due.is("below the least", x.on(0, 1), -6);
    Due.is("but not there", x.on(0, 6), 3);
    Due.is("no form", x.on(4, 1), -1);
    Due.is("no side 0", x.on(0, 0), -1);
    Due.is("no side 8", x.on(0, 8), -1);
    x.on(1, 1);
    x.on(1, 1);
    Due.is("a seventh", x.on(1, 1), -6);
    Due.refusals("on", x, 3, 0, 0, 0, 0, 2);
  }

  private static void spelled() {
    FormsAboveNought x = Due.with("-a^2+ab-12ac+100b^2-bc", "1", "-1", "0a", "a^6");
    Due.is("signs", Due.spelling(x, 0), "-a^2+ab-12ac+100b^2-bc");
    Due.is("1 alone", Due.spelling(x, 1), "1");
    Due.is("-1 alone", Due.spelling(x, 2), "-1");
    Due.is("nought", Due.spelling(x, 3), "0");
    Due.is("length of nought", x.spelled(3, -1), 1);
    x.change(4, 27, -1000000);
    x.change(4, 13, 1000000);
    x.turn(4, 3, 9);
    Due.is("length of the longest numbers", x.spelled(4, -1), length(x, 4));
    Due.is("the first byte", x.spelled(0, 0), '-');
    Due.is("the last byte", x.spelled(0, 21), 'c');
    Due.is("behind it", x.spelled(0, 22), -9);
    Due.is("far behind it", x.spelled(0, Integer.MAX_VALUE), -9);
    Due.is("by kind", x.turn(0, 5, 0), 0);
    Due.is("a form by kind", Due.spelling(x, 0), "-a^2+100b^2");
    Due.is("no form", x.spelled(5, -2), -1);
    Due.is("i below", x.spelled(0, -2), -4);
    Due.refusals("spelled", x, 1, 0, 0, 1, 0, 0);
  }

  /** How long a text is of a form of degree 6 none of whose coefficients is 0, 1 or -1. */
  private static int length(FormsAboveNought x, int form) {
    int length = 0;
    for (int i = 6; i >= 0; i--) {
      for (int j = 6 - i; j >= 0; j--) {
        int k = 6 - i - j;
        int number = x.coefficient(form, (j + k) * (j + k + 1) / 2 + k);
        length += Integer.toString(Math.abs(number)).length() + 1;
        for (int power : new int[] {i, j, k}) length += power == 0 ? 0 : power == 1 ? 1 : 3;
      }
    }
    return x.coefficient(form, 0) > 0 ? length - 1 : length;
  }

  private static void lots() {
    FormsAboveNought x = Due.with("a-b", "-1", "0");
    for (int seed : new int[] {0, 1, -1, 12345, Integer.MIN_VALUE, Integer.MAX_VALUE}) {
      for (int n : new int[] {1, 2, 7, 50}) {
        int z = seed;
        int below = 0;
        int nought = 0;
        for (int lot = 0; lot < n; lot++) {
          int[] draw = new int[3];
          for (int c = 0; c < 3; c++) {
            z = (int) ((z * 1664525L + 1013904223L) & 0xffffffffL);
            draw[c] = (int) ((z & 0x7fffffffL) / 256 % 10);
          }
          if (draw[0] < draw[1]) below++;
          if (draw[0] == draw[1]) nought++;
        }
        Due.is("lots below", x.lots(0, n, seed, 0), below);
        Due.is("lots 0", x.lots(0, n, seed, 1), nought);
        Due.is("always below", x.lots(1, n, seed, 0), n);
        Due.is("always 0", x.lots(2, n, seed, 1), n);
        Due.is("never below", x.lots(2, n, seed, 0), 0);
      }
    }
    Due.is("no form", x.lots(3, 0, 0, 2), -1);
    Due.is("n below", x.lots(0, 0, 0, 2), -4);
    Due.is("n above", x.lots(0, 51, 0, 2), -6);
    Due.is("no what", x.lots(0, 50, 0, 2), -2);
    Due.is("what below", x.lots(0, 1, 0, -1), -2);
    Due.refusals("lots", x, 1, 2, 0, 1, 0, 1);
  }
}
