import java.math.BigInteger;
import java.util.Random;

/** Edges of the head "Terms": polynomials and their walls, forms made of others, new ones, fractions. */
final class MadeEdges {
  private MadeEdges() {
  }

  static void all() {
    polynomials();
    walls();
    leastWalls();
    madeOf();
    sumOfTwo();
    productOfTwo();
    liftByN();
    negative();
    onASide();
    cannotCome();
    spelled();
    spelledNought();
    fractions();
  }

  private static void tries(String words) {
    Sentences.tries("Terms", words);
  }

  /** A new object whose list 0 has these numbers. */
  static FormsAboveNought told(int... numbers) {
    FormsAboveNought x = new FormsAboveNought();
    x.list(0, numbers.length);
    for (int i = 0; i < numbers.length; i++) x.put(0, i, numbers[i]);
    return x;
  }

  private static void polynomials() {
    tries("==== 3 A polynomial of one letter x is told by a LIST");
    FormsAboveNought nine = told(-1000000, 0, 0, 0, 1000000, 0, 0, 0, -1000000);
    Edge.is(nine, -1000000, "walls", 0, 8, 0);
    Edge.is(nine, -9, "wallsLeast", 0, 0);
    Edge.is(told(1000000, 0, 0, 0, 0, 0, 0, 0, 1000000), 2000000, "walls", 0, 8, 8);
    isNone(told(0, 0, 0, 0, 0, 0, 0, 0, 0, 0));
    isNone(told(1, 0, 0, 0, 0, 0, 0, 0, 0, 0));
    isNone(new int[40]);
    for (int far : new int[] {1000001, -1000001, Edge.MAX, Edge.MIN}) {
      isNone(told(far));
      isNone(told(far, 0, 0, 0, 0, 0, 0, 0, 0));
      isNone(told(0, 0, 0, 0, 0, 0, 0, 0, far));
    }
    // what stood behind the places that there are now tells nothing
    FormsAboveNought shorter = told(1, 2, 4000000, 8, 16, 32, 64, 128, 256);
    shorter.list(0, 2);
    Edge.is(shorter, 1, "wallsLeast", 0, 0);
    shorter.list(0, 4);
    for (int i = 0; i < 4; i++) shorter.put(0, i, 5000000);
    shorter.list(0, 2);
    shorter.put(0, 0, 3);
    Edge.is(shorter, 9, "walls", 0, 3, 1);
    Edge.is(shorter, 3, "walls", 0, 3, 3);
    FormsAboveNought none = told();
    for (int d = 0; d <= 16; d++) {
      Edge.is(none, 0, "walls", 0, d, 0);
      Edge.is(none, 0, "walls", 0, d, d);
    }
    Edge.is(none, 0, "wallsLeast", 0, 0);
    Edge.is(none, -9, "wallsLeast", 0, 1);
  }

  private static void isNone(int[] numbers) {
    isNone(told(numbers));
  }

  private static void isNone(FormsAboveNought x) {
    Edge.is(x, Due.FAR + 3, "walls", 0, 16, 0);
    Edge.is(x, -3, "wallsLeast", 0, 0);
  }

  private static void walls() {
    tries("WALLS of DEGREE d (not less than");
    Edge.is(told(5, 0, 0), Due.FAR + 3, "walls", 0, 1, 0);
    Edge.is(told(5, 0, 0), 5, "walls", 0, 2, 0);
    Edge.is(told(5), 5, "walls", 0, 0, 0);
    Edge.is(told(0, 0, 0, 0, 0, 0, 0, 0, 1), Due.FAR + 3, "walls", 0, 7, 0);
    Edge.is(told(0, 0, 0, 0, 0, 0, 0, 0, 1), 1, "walls", 0, 8, 8);
    Edge.is(told(0, 0, 0, 0, 0, 0, 0, 0, 1), 0, "walls", 0, 8, 7);
    Edge.is(told(1), 1, "walls", 0, 16, 0);
    Edge.is(told(1), 1, "walls", 0, 16, 16);
    Edge.is(told(1), 12870, "walls", 0, 16, 8);
    Random random = new Random(5);
    for (int many = 0; many <= 9; many++) {
      int[] numbers = new int[many];
      for (int k = 0; k < many; k++) numbers[k] = random.nextInt(2000001) - 1000000;
      for (int d = Math.max(0, many - 1); d <= 16; d++) isTheSum(numbers, d);
    }
  }

  /** Alike at more places than their degree has: so they are the same polynomial. */
  private static void isTheSum(int[] numbers, int d) {
    FormsAboveNought lists = told(numbers);
    for (int at = -8; at <= 8; at++) {
      BigInteger x = BigInteger.valueOf(at);
      BigInteger rest = BigInteger.valueOf(1 - at);
      BigInteger due = BigInteger.ZERO;
      for (int k = 0; k < numbers.length; k++) due = due.add(BigInteger.valueOf(numbers[k]).multiply(x.pow(k)));
      BigInteger sum = BigInteger.ZERO;
      for (int i = 0; i <= d; i++) {
        sum = sum.add(BigInteger.valueOf(lists.walls(0, d, i)).multiply(x.pow(i)).multiply(rest.pow(d - i)));
      }
      Due.is(numbers.length + " numbers, walls of degree " + d + " at " + at, sum.toString(), due.toString());
    }
  }

  private static void leastWalls() {
    tries("LEAST WALLS by SORT: the least d (up to 16)");
    leasts(told(), 0, -9);
    leasts(told(0), 0, -9);
    leasts(told(1), 0, 0);
    leasts(told(-1), -9, -9);
    leasts(told(0, 1), 1, -9);
    leasts(told(1, 0, 0, 0, 0, 0, 0, 0, 0), 8, 8);
    leasts(told(0, 0, 0, 0, 0, 0, 0, 0, 0), 8, -9);
    leasts(told(1, -11, 46), 16, 16);
    leasts(told(1, -7, 15), 16, -9);
    leasts(told(1, -9, 27), -9, -9);
    leasts(told(1, -1), 1, -9);
    leasts(told(1000000, 1000000), 1, 1);
  }

  private static void leasts(FormsAboveNought x, int bySort0, int bySort1) {
    Edge.is(x, bySort0, "wallsLeast", 0, 0);
    Edge.is(x, bySort1, "wallsLeast", 0, 1);
  }

  private static void madeOf() {
    tries("MADE OF: a FORM as a sum of others, each times a fraction");
    FormsAboveNought x = Due.with("a", "b", "c", "a+2b+3c", "-a+c", "0a^2");
    made(x, 3, 0b000111, 0, 1, 1);
    made(x, 3, 0b000111, 1, 2, 1);
    made(x, 3, 0b000111, 2, 3, 1);
    made(x, 4, 0b000101, 0, -1, 1);
    laterTerms();
    notMade(x, 3, 0b010111);
    notMade(x, 3, 0b001000);
    notMade(x, 3, 0b001011);
    notMade(x, 3, 0b000011);
    notMade(x, 4, 0b100101);
    notMade(x, 5, 0b000001);
    notMade(x, 0, 0b100000);
    farNumbers();
    loose();
  }

  private static void made(FormsAboveNought x, int form, int set, int g, long above, long below) {
    Edge.is(x, above, "made", form, set, g, 0);
    Edge.is(x, below, "made", form, set, g, 1);
  }

  private static void notMade(FormsAboveNought x, int form, int set) {
    Edge.is(x, Due.FAR + 3, "made", form, set, 0, 0);
  }

  /** -99 .. 99: one past that in the form itself, in each of the set, by kind too. */
  private static void farNumbers() {
    FormsAboveNought x = Due.with("99a-99b", "99a+99b", "99a-98b+c", "99a+99b-99c");
    made(x, 3, 0b0111, 0, 197, 2);
    made(x, 3, 0b0111, 1, 3, 2);
    made(x, 3, 0b0111, 2, -99, 1);
    for (int form = 0; form < 4; form++) {
      int was = x.change(form, 1, 100);
      notMade(x, 3, 0b0111);
      x.change(form, 1, -100);
      notMade(x, 3, 0b0111);
      x.change(form, 1, was);
      made(x, 3, 0b0111, 2, -99, 1);
    }
    FormsAboveNought y = Due.with("99", "98", "97", "100", "1");
    made(y, 0, 0b00010, 1, 99, 98);
    made(y, 1, 0b00101, 0, 98, 99);
    made(y, 1, 0b00101, 2, 0, 1);
    made(y, 0, 0b10110, 4, 0, 1);
    notMade(y, 3, 0b10000);
    notMade(y, 4, 0b01000);
    notMade(y, 4, 0b01001);
    y.change(4, 0, -97);
    y.turn(4, 3, 2);
    made(y, 0, 0b10000, 4, -1, 1);
    y.turn(4, 3, 3);
    notMade(y, 0, 0b10000);
    notMade(y, 4, 0b00001);
  }

  /** Forms without the first terms ahead of others, and forms of degree 6 that differ at the last one. */
  private static void laterTerms() {
    FormsAboveNought x = Due.with("c", "b+c", "a+b", "2a+5b+7c", "b", "a");
    made(x, 3, 0b000111, 0, 4, 1);
    made(x, 3, 0b000111, 1, 3, 1);
    made(x, 3, 0b000111, 2, 2, 1);
    made(x, 2, 0b110000, 4, 1, 1);
    made(x, 2, 0b110000, 5, 1, 1);
    FormsAboveNought y = Due.with("a^6-2c^6", "b^6+c^6", "99c^6", "99a^6+98b^6-c^6", "0a^6");
    made(y, 3, 0b00111, 0, 99, 1);
    made(y, 3, 0b00111, 1, 98, 1);
    made(y, 3, 0b00111, 2, 1, 1);
    notMade(y, 3, 0b00011);
    notMade(y, 2, 0b00011);
    made(y, 4, 0b00111, 2, 0, 1);
    y.change(4, 27, 1);
    made(y, 4, 0b00100, 2, 1, 99);
    made(y, 4, 0b00111, 2, 1, 99);
  }

  private static void loose() {
    FormsAboveNought x = Due.with("0a", "a+b", "2a+2b", "b", "3a+4b", "0b");
    made(x, 4, 0b001011, 0, 0, 1);
    made(x, 4, 0b001011, 1, 3, 1);
    made(x, 4, 0b001011, 3, 1, 1);
    made(x, 4, 0b001110, 2, 0, 1);
    made(x, 4, 0b001110, 1, 3, 1);
    made(x, 4, 0b001100, 2, 3, 2);
    made(x, 0, 0b100000, 5, 0, 1);
    made(x, 0, 0b001110, 1, 0, 1);
    made(x, 2, 0b000010, 1, 2, 1);
    made(x, 1, 0b000100, 2, 1, 2);
    notMade(x, 4, 0b100001);
  }

  private static void isNew(FormsAboveNought x, int form, int degree, String text) {
    Due.is("kind of a new one", x.of(form, 0), 0);
    Due.is("figure of a new one", x.of(form, 1), 0);
    Due.is("degree of a new one", x.of(form, 2), degree);
    Due.is("its text", Due.spelling(x, form), text);
  }

  /** 2a - b, 9 less: -7a - 10b - 9c; and 3, turned. */
  private static FormsAboveNought ofKinds() {
    FormsAboveNought x = Due.with("2a-b", "3", "a^6");
    x.turn(0, 3, 9);
    x.turn(1, 1, 5);
    return x;
  }

  private static void sumOfTwo() {
    tries("New FORMS are PLAIN, of FIGURE 0, made of COEFFICIENTS: SUM of two");
    FormsAboveNought x = ofKinds();
    Due.is("with itself", x.sum(0, 0), 3);
    isNew(x, 3, 1, "-14a-20b-18c");
    Due.is("of numbers", x.sum(1, 1), 4);
    isNew(x, 4, 0, "6");
    Due.is("of degree 6", x.sum(2, 2), 5);
    isNew(x, 5, 6, "2a^6");
  }

  private static void productOfTwo() {
    tries("PRODUCT of two");
    productsOfKinds();
    FormsAboveNought x = ofKinds();
    Due.is("with itself", x.product(1, 1), 3);
    isNew(x, 3, 0, "9");
    Due.is("of a number and a form", x.product(1, 0), 4);
    isNew(x, 4, 1, "-21a-30b-27c");
    Due.is("of degree 6 and a number", x.product(2, 1), 5);
    isNew(x, 5, 6, "3a^6");
  }

  /** Of a + 2b + 4c by kind: alone, from both hands of a product. */
  private static void productsOfKinds() {
    String[] byKind = {"a+2b+4c", "4a+b+2c", "2b+4c", "a+2b+4c", "2a+4b+c", "2b"};
    String[] bySquare = {"a^2+4ab+8ac+4b^2+16bc+16c^2", "16a^2+8ab+16ac+b^2+4bc+4c^2", "4b^2+16bc+16c^2",
        "a^2+4ab+8ac+4b^2+16bc+16c^2", "4a^2+16ab+4ac+16b^2+8bc+c^2", "4b^2"};
    for (int kind = 0; kind <= 5; kind++) {
      FormsAboveNought x = Due.with("a+2b+4c", "1");
      x.turn(0, kind, 0);
      x.turn(1, kind, 0);
      Due.is("one by the other", x.product(0, 1), 2);
      isNew(x, 2, 1, byKind[kind]);
      Due.is("the other by one", x.product(1, 0), 3);
      isNew(x, 3, 1, byKind[kind]);
      Due.is("by itself", x.product(0, 0), 4);
      isNew(x, 4, 2, bySquare[kind]);
      // the next comes where one of a kind was
      x.turn(4, 3, 8);
      x.drop();
      Due.is("on all letters", x.on(0, 7), 4);
      isNew(x, 4, 1, byKind[kind]);
    }
  }

  private static void liftByN() {
    tries("LIFT by n");
    FormsAboveNought x = ofKinds();
    Due.is("by 0", x.lift(0, 0), 3);
    isNew(x, 3, 1, "-7a-10b-9c");
    Due.is("a number by 1", x.lift(1, 1), 4);
    isNew(x, 4, 1, "3a+3b+3c");
    Due.is("a number by 6", x.lift(1, 6), 5);
    Due.is("its degree", x.of(5, 2), 6);
    Due.is("at a^2 b^2 c^2", x.coefficient(5, 12), 3 * 90);
    Due.is("at c^6", x.coefficient(5, 27), 3);
  }

  private static void negative() {
    tries("NEGATIVE: each 0 less it");
    FormsAboveNought x = ofKinds();
    Due.is("of one", x.negative(0), 3);
    isNew(x, 3, 1, "7a+10b+9c");
    x.change(2, 0, 0);
    Due.is("of nought", x.negative(2), 4);
    isNew(x, 4, 6, "0");
    x.change(2, 0, -1000000);
    Due.is("of the least", x.negative(2), 5);
    isNew(x, 5, 6, "1000000a^6");
  }

  private static void onASide() {
    tries("ON a SIDE");
    FormsAboveNought x = ofKinds();
    Due.is("on a corner", x.on(0, 4), 3);
    isNew(x, 3, 1, "-9c");
    Due.is("on all letters", x.on(0, 7), 4);
    isNew(x, 4, 1, "-7a-10b-9c");
    Due.is("on another corner", x.on(2, 2), 5);
    isNew(x, 5, 6, "0");
  }

  private static void cannotCome() {
    tries("They can't come, if there are six");
    String[] calls = {"sum", "product", "lift", "negative", "on"};
    int[][] p = {{0, 0}, {3, 3}, {3, 0}, {0}, {0, 1}};
    String[] acts = {"sum 0 0", "times 3 3", "lift 3 0", "minus 0", "side 0 1"};
    for (int n = 0; n < 5; n++) {
      FormsAboveNought x = Due.with("a", "b", "c", "1", "2");
      Edge.is(x, 5, calls[n], p[n]);
      Edge.is(x, -6, calls[n], p[n]);
      Due.is(acts[n], Due.acts(x, acts[n]), -2000);
      x.drop();
      Due.is(acts[n], Due.acts(x, acts[n]), 1);
      Due.is(acts[n], Due.acts(x, acts[n]), -2000);
    }
    farDegrees();
    unlikeDegrees();
    for (int sign = -1; sign <= 1; sign += 2) farSums(sign);
    farProducts();
    farLifts();
    farOthers();
    smallBehindFar();
  }

  private static void farDegrees() {
    FormsAboveNought x = Due.with("a^3", "a^4", "1", "a^6");
    Edge.is(x, 4, "product", 0, 0);
    Edge.is(x, 6, "of", 4, 2);
    Edge.is(x, -6, "product", 0, 1);
    Edge.is(x, -6, "product", 3, 3);
    Edge.is(x, 5, "product", 2, 3);
    x.drop();
    Edge.is(x, 5, "lift", 0, 3);
    x.drop();
    Edge.is(x, -6, "lift", 0, 4);
    Edge.is(x, 5, "lift", 2, 6);
    x.drop();
    Edge.is(x, -6, "lift", 3, 1);
    Edge.is(x, -6, "lift", 3, 6);
    Due.is("times of degree 7", Due.acts(x, "times 0 1"), -2000);
    Due.is("lift to degree 7", Due.acts(x, "lift 0 4"), -2000);
    Due.is("lift by 7", Due.acts(x, "lift 2 7"), -2000);
    Due.is("lift by 9", Due.acts(x, "lift 2 9"), -2000);
    Due.is("lift by 6", Due.acts(x, "lift 2 6"), 1);
  }

  private static void unlikeDegrees() {
    FormsAboveNought x = Due.with("a", "1", "a^2");
    Edge.is(x, -3, "sum", 0, 1);
    Edge.is(x, -3, "sum", 1, 0);
    Edge.is(x, -3, "sum", 0, 2);
    Due.is("unlike ones", Due.acts(x, "sum 0 1"), -2000);
    Due.is("unlike ones", Due.acts(x, "sum 2 0"), -2000);
  }

  /** At the first and at the last term: 1000000 comes, one more does not; below nought likewise. */
  private static void farSums(int sign) {
    for (int term = 0; term < 28; term += 27) {
      FormsAboveNought x = Due.with("b^6", "b^6");
      x.change(0, term, sign * 999999);
      x.change(1, term, sign);
      Edge.is(x, 2, "sum", 0, 1);
      Edge.is(x, sign * 1000000, "coefficient", 2, term);
      x.change(1, term, sign * 2);
      Edge.is(x, -6, "sum", 0, 1);
      Edge.is(x, -6, "sum", 2, 2);
      Due.is("a sum too far", Due.acts(x, "sum 0 1"), -2000);
      Edge.is(x, 3, "count", 0);
    }
  }

  private static void farProducts() {
    FormsAboveNought x = Due.with("a+b", "1", "-1");
    x.change(1, 0, 1000000);
    x.change(2, 0, -1000000);
    Edge.is(x, 3, "product", 0, 1);
    Edge.is(x, 4, "product", 0, 2);
    Edge.is(x, -6, "product", 1, 1);
    Edge.is(x, -6, "product", 1, 2);
    Edge.is(x, -6, "product", 3, 3);
    x.change(0, 2, 2);
    Edge.is(x, -6, "product", 0, 1);
    Edge.is(x, -6, "product", 2, 0);
    Due.is("a product too far", Due.acts(x, "times 0 1"), -2000);
    FormsAboveNought y = Due.with("a+b", "a+b");
    y.change(0, 0, 500000);
    y.change(0, 1, 500000);
    Edge.is(y, 2, "product", 0, 1);
    y.change(0, 1, 500001);
    Edge.is(y, -6, "product", 0, 1);
  }

  private static void farLifts() {
    FormsAboveNought x = Due.with("a+b", "1");
    x.change(0, 0, 500000);
    x.change(0, 1, 500000);
    Edge.is(x, 2, "lift", 0, 1);
    Edge.is(x, -6, "lift", 0, 2);
    x.change(0, 1, 500001);
    Edge.is(x, -6, "lift", 0, 1);
    Due.is("a lift too far", Due.acts(x, "lift 0 1"), -2000);
    x.change(1, 0, -11111);
    Edge.is(x, 3, "lift", 1, 6);
    Edge.is(x, -999990, "coefficient", 3, 12);
    x.change(1, 0, -11112);
    Edge.is(x, -6, "lift", 1, 6);
    x.change(1, 0, 11112);
    Edge.is(x, -6, "lift", 1, 6);
  }

  /** By kind LESS a coefficient is below -1000000 without being told so. */
  private static void farOthers() {
    FormsAboveNought x = Due.with("a", "a");
    x.change(0, 0, -999991);
    x.turn(0, 3, 9);
    Edge.is(x, 2, "negative", 0);
    Edge.is(x, 1000000, "coefficient", 2, 0);
    Edge.is(x, 3, "on", 0, 1);
    Edge.is(x, -1000000, "coefficient", 3, 0);
    x.change(0, 0, -999992);
    Edge.is(x, -1000001, "coefficient", 0, 0);
    Edge.is(x, -6, "negative", 0);
    Edge.is(x, -6, "on", 0, 1);
    Edge.is(x, -6, "lift", 0, 0);
    Edge.is(x, 4, "on", 0, 6);
    Due.is("a negative too far", Due.acts(x, "minus 0"), -2000);
    Due.is("one on a side too far", Due.acts(x, "side 0 3"), -2000);
    Due.is("one on another side", Due.acts(x, "side 0 6"), 1);
  }

  /** What was reckoned ahead, or could not come, keeps no form from coming. */
  private static void smallBehindFar() {
    FormsAboveNought x = Due.with("a^6", "1", "a");
    for (int term = 0; term < 28; term++) x.change(0, term, 1000000);
    for (int form = 1; form <= 2; form++) {
      Edge.is(x, 1000000, "lifted", 0, 7, 12, 189);
      Edge.is(x, 3, "sum", form, form);
      Edge.is(x, 4, "negative", form);
      Edge.is(x, -6, "product", 0, 0);
      Edge.is(x, 5, "on", form, 7);
      for (int n = 5; n >= 3; n--) x.drop();
      Edge.is(x, -6, "sum", 0, 0);
      Edge.is(x, 3, "product", form, 1);
      Edge.is(x, -6, "sum", 0, 0);
      Edge.is(x, 4, "lift", form, 1);
      for (int n = 4; n >= 3; n--) x.drop();
    }
  }

  private static void spelled() {
    tries("SPELLED: a FORM as a text of bytes");
    is("a", 0, 1, "a");
    is("a", 0, -1, "-a");
    is("a+b", 0, 0, "b");
    is("a-b", 0, 0, "-b");
    is("a+b", 2, -1, "a+b-c");
    is("a", 0, 2, "2a");
    is("a", 0, -2, "-2a");
    is("1", 0, 1, "1");
    is("1", 0, -1, "-1");
    is("1", 0, 9, "9");
    is("1", 0, 10, "10");
    is("1", 0, 100000, "100000");
    is("1", 0, 999999, "999999");
    is("1", 0, 1000000, "1000000");
    is("1", 0, -1000000, "-1000000");
    is("a^6", 12, -1, "a^6-a^2b^2c^2");
    is("abc", 4, 1, "abc");
    is("a^2b^1c^3", 1, 10, "10a^5b+a^2bc^3");
    is("b^6+bc^5", 27, 99, "b^6+bc^5+99c^6");
    FormsAboveNought less = Due.with("1", "2a+b");
    less.change(0, 0, -1000000);
    less.turn(0, 3, 9);
    less.turn(1, 3, 1);
    Due.is("9 less than the least", Due.spelling(less, 0), "-1000009");
    Due.is("1 less", Due.spelling(less, 1), "a-c");
    FormsAboveNought most = Due.with("a^6");
    for (int term = 0; term < 28; term++) most.change(0, term, -1000000);
    int length = 28 * 8;
    for (int i = 0; i <= 6; i++) {
      for (int j = 0; j <= 6 - i; j++) {
        for (int power : new int[] {i, j, 6 - i - j}) length += power == 0 ? 0 : power == 1 ? 1 : 3;
      }
    }
    Edge.is(most, length, "spelled", 0, -1);
    Edge.is(most, '-', "spelled", 0, 0);
    Edge.is(most, '6', "spelled", 0, length - 1);
    Edge.is(most, -9, "spelled", 0, length);
  }

  /** A form with one number changed: its text. */
  private static void is(String text, int term, int v, String due) {
    FormsAboveNought x = Due.with(text);
    x.change(0, term, v);
    Due.is("spelled " + text, Due.spelling(x, 0), due);
    Due.is("its length", x.spelled(0, -1), due.length());
    Due.is("behind its last byte", x.spelled(0, due.length()), -9);
  }

  private static void spelledNought() {
    tries("Without such TERMS: 0");
    for (String text : new String[] {"0", "0a", "a-a", "0a^6", "0a^2b^2c^2-0c^6"}) {
      FormsAboveNought x = Due.with(text);
      Edge.is(x, 1, "spelled", 0, -1);
      Edge.is(x, '0', "spelled", 0, 0);
      Edge.is(x, -9, "spelled", 0, 1);
    }
    FormsAboveNought x = Due.with("5a");
    x.turn(0, 5, 0);
    Due.is("nought by its kind", Due.spelling(x, 0), "0");
  }

  private static void fractions() {
    tries("Fractions are told in least terms");
    FormsAboveNought x = Due.with("99", "-66", "0", "33", "-99");
    made(x, 0, 0b00010, 1, -3, 2);
    made(x, 1, 0b00001, 0, -2, 3);
    made(x, 2, 0b00010, 1, 0, 1);
    made(x, 0, 0b01000, 3, 3, 1);
    made(x, 3, 0b00001, 0, 1, 3);
    made(x, 4, 0b00010, 1, 3, 2);
    made(x, 4, 0b00001, 0, -1, 1);
    FormsAboveNought y = Due.with("abc", "a-b", "1", "a");
    Edge.is(y, 0, "share", 0, 7, 2, 0);
    Edge.is(y, 1, "share", 0, 7, 2, 1);
    Edge.is(y, 2, "share", 1, 7, 3, 0);
    Edge.is(y, 5, "share", 1, 7, 3, 1);
    Edge.is(y, 1, "share", 2, 7, 12, 0);
    Edge.is(y, 1, "share", 2, 7, 12, 1);
    Edge.is(y, 6, "share", 3, 7, 12, 0);
    Edge.is(y, 7, "share", 3, 7, 12, 1);
  }
}
