import java.util.function.Supplier;

/** Edges of promises 19 to 28: walls, what is made of others. */
final class MadeCallEdges {
  private static final int[] NO_FORM = {-1, 4, Edge.MIN, Edge.MAX};
  private static final int[] NO_LIST = {-1, 3, Edge.MIN, Edge.MAX};
  private static final int[] NO_BIT = {-1, 2, Edge.MIN, Edge.MAX};
  private static final int[] BELOW_0 = {-1, Edge.MIN};

  private MadeCallEdges() {
  }

  static void all() {
    walls();
    wallsLeast();
    made();
    sum();
    product();
    lift();
    negative();
    on();
    spelled();
    lots();
  }

  /** What most calls need, but that list 0 has these numbers. */
  private static Supplier<FormsAboveNought> listed(int... numbers) {
    return () -> {
      FormsAboveNought x = Edge.some();
      x.list(0, numbers.length);
      for (int i = 0; i < numbers.length; i++) x.put(0, i, numbers[i]);
      return x;
    };
  }

  private static void walls() {
    Sentences.tries(19, "`long walls");
    FormsAboveNought x = MadeEdges.told(1, -2, 2);
    long[] due = {1, 0, 1};
    for (int i = 0; i <= 2; i++) Edge.is(x, due[i], "walls", 0, 2, i);
    Edge.is(x, 1, "walls", 0, 16, 0);
    Edge.is(x, 14, "walls", 0, 16, 1);
    Edge.is(x, 1, "walls", 0, 16, 16);
    Edge.is(MadeEdges.told(), 0, "walls", 0, 0, 0);
    Edge.is(MadeEdges.told(1000000), 12870000000L, "walls", 0, 16, 8);

    Sentences.tries(19, "Refused far: -1; -4 (d, i); -6 (16; i above d); -11; -3 more than 9 numbers");
    for (int list : NO_LIST) {
      Edge.refusedFar(-1, "walls", list, 2, 0);
      Edge.refusedFar(-1, "walls", list, -1, 0);
      Edge.refusedFar(-1, "walls", list, 17, 0);
    }
    for (int low : BELOW_0) {
      Edge.refusedFar(-4, "walls", 0, low, 0);
      Edge.refusedFar(-4, "walls", 0, 2, low);
      Edge.refusedFar(-4, "walls", 2, 17, low);
      Edge.refusedFar(-4, "walls", 2, low, 17);
    }
    for (int high : new int[] {17, Edge.MAX}) {
      Edge.refusedFar(-6, "walls", 0, high, 0);
      Edge.refusedFar(-6, "walls", 2, high, 17);
      Edge.refusedFar(-6, "walls", 2, 16, high);
    }
    Edge.refusedFar(-6, "walls", 0, 2, 3);
    Edge.refusedFar(-6, "walls", 0, 0, 1);
    for (int d = 0; d <= 16; d += 16) Edge.refusedFar(-11, "walls", 2, d, d);
    Edge.refusedFar(-3, "walls", 0, 1, 0);
    Edge.refusedFar(-3, "walls", 0, 0, 0);
    Edge.refusedFar(listed(0, 0, 0), -3, "walls", 0, 1, 1);
    Edge.refusedFar(listed(new int[9]), -3, "walls", 0, 7, 7);
    Edge.refusedFar(listed(new int[10]), -3, "walls", 0, 16, 16);
    Edge.refusedFar(listed(new int[40]), -3, "walls", 0, 16, 0);
    for (int odd : new int[] {1000001, -1000001, Edge.MAX, Edge.MIN}) {
      Edge.refusedFar(listed(odd), -3, "walls", 0, 0, 0);
      Edge.refusedFar(listed(0, 0, odd), -3, "walls", 0, 2, 0);
    }
  }

  private static void wallsLeast() {
    Sentences.tries(20, "`int wallsLeast");
    Edge.is(MadeEdges.told(1, -11, 46), 16, "wallsLeast", 0, 0);
    Edge.is(MadeEdges.told(1, -9, 27), -9, "wallsLeast", 0, 0);
    Edge.is(MadeEdges.told(1, -7, 15), -9, "wallsLeast", 0, 1);
    Edge.is(MadeEdges.told(7), 0, "wallsLeast", 0, 1);
    Edge.is(MadeEdges.told(7, 0, 0, 0, 0, 0, 0, 0, 0), 8, "wallsLeast", 0, 1);
    Edge.is(MadeEdges.told(), 0, "wallsLeast", 0, 0);
    Edge.is(MadeEdges.told(), -9, "wallsLeast", 0, 1);

    Sentences.tries(20, "-1; -2; -11; -3 more than 9 numbers, one out of range");
    for (int list : NO_LIST) {
      Edge.refused(-1, "wallsLeast", list, 0);
      Edge.refused(-1, "wallsLeast", list, 2);
    }
    for (int sort : NO_BIT) {
      Edge.refused(-2, "wallsLeast", 0, sort);
      Edge.refused(-2, "wallsLeast", 2, sort);
      Edge.refused(listed(new int[10]), -2, "wallsLeast", 0, sort);
    }
    for (int sort = 0; sort <= 1; sort++) {
      Edge.refused(-11, "wallsLeast", 2, sort);
      Edge.refused(listed(new int[10]), -3, "wallsLeast", 0, sort);
      Edge.refused(listed(new int[40]), -3, "wallsLeast", 0, sort);
      for (int odd : new int[] {1000001, -1000001, Edge.MAX, Edge.MIN}) {
        Edge.refused(listed(odd), -3, "wallsLeast", 0, sort);
        Edge.refused(listed(0, 0, 0, 0, 0, 0, 0, 0, odd), -3, "wallsLeast", 0, sort);
      }
    }
  }

  private static FormsAboveNought lines() {
    FormsAboveNought x = Due.with("a", "b", "c", "2a-3b", "0a", "7a^2");
    x.change(5, 0, 8);
    return x;
  }

  private static void made() {
    Sentences.tries(21, "`long made");
    FormsAboveNought x = lines();
    long[] above = {2, -3, 0, 0, 0, 0};
    for (int g = 0; g <= 5; g++) {
      Edge.is(x, above[g], "made", 3, 0b000111, g, 0);
      Edge.is(x, 1, "made", 3, 0b000111, g, 1);
    }
    // b is two thirds of a, less a third of 2a - 3b
    Edge.is(x, 2, "made", 1, 0b001001, 0, 0);
    Edge.is(x, 3, "made", 1, 0b001001, 0, 1);
    Edge.is(x, -1, "made", 1, 0b001001, 3, 0);
    Edge.is(x, 3, "made", 1, 0b001001, 3, 1);
    Edge.is(x, 0, "made", 1, 0b001001, 1, 0);
    Edge.is(x, 1, "made", 1, 0b001001, 1, 1);

    Sentences.tries(21, "Refused far: -1 (FORM, set, g); -2; -3 the set or a COEFFICIENT");
    Supplier<FormsAboveNought> start = MadeCallEdges::lines;
    for (int none : new int[] {-1, 6, Edge.MIN, Edge.MAX}) {
      Edge.refusedFar(start, -1, "made", none, 3, 0, 0);
      Edge.refusedFar(start, -1, "made", none, 8, 0, 2);
      Edge.refusedFar(start, -1, "made", 3, 3, none, 0);
      Edge.refusedFar(start, -1, "made", 3, 8, none, 2);
    }
    for (int set : new int[] {0, -1, 64, 65, 1 << 30, Edge.MIN, Edge.MIN + 3, Edge.MAX}) {
      Edge.refusedFar(start, -1, "made", 3, set, 0, 0);
      Edge.refusedFar(start, -1, "made", 3, set, 0, 2);
    }
    for (int part : NO_BIT) {
      Edge.refusedFar(start, -2, "made", 3, 3, 0, part);
      Edge.refusedFar(start, -2, "made", 3, 8, 0, part);
      Edge.refusedFar(start, -2, "made", 3, 32, 0, part);
    }
    for (int part = 0; part <= 1; part++) {
      for (int set : new int[] {0b001000, 0b001011, 0b010111, 0b100000, 0b100011, 0b000001, 0b010000, 0b000110, 63}) {
        Edge.refusedFar(start, -3, "made", 3, set, 0, part);
      }
      for (int v : new int[] {100, -100, 1000000, -1000000}) {
        for (int form : new int[] {0, 1, 3}) {
          Edge.refusedFar(withNumber(form, v), -3, "made", 3, 3, 0, part);
          Edge.refusedFar(withNumber(form, v), -3, "made", 3, 3, 5, part);
        }
      }
    }
    for (int v = -99; v <= 99; v += 198) Edge.is(withNumber(3, v).get(), v, "made", 3, 7, 2, 0);
    // what is not in the set may have any
    Edge.is(withNumber(2, 100).get(), 2, "made", 3, 3, 0, 0);
  }

  private static Supplier<FormsAboveNought> withNumber(int form, int v) {
    return () -> {
      FormsAboveNought x = lines();
      x.change(form, 2, v);
      return x;
    };
  }

  private static FormsAboveNought five() {
    FormsAboveNought x = Due.with("a-b", "a^6", "1", "2", "a^2");
    x.turn(0, 0, 4);
    Due.type(x, "a");
    return x;
  }

  /** These, and the one of the letters. */
  private static FormsAboveNought six() {
    FormsAboveNought x = five();
    x.form();
    return x;
  }

  /** Five forms, the first with a number at b and the last with one at a^2. */
  private static Supplier<FormsAboveNought> five(int atB, int atA2) {
    return () -> {
      FormsAboveNought x = five();
      x.change(0, 1, atB);
      x.change(4, 0, atA2);
      return x;
    };
  }

  private static void sum() {
    Sentences.tries(22, "`int sum");
    FormsAboveNought x = five();
    Edge.is(x, 5, "sum", 0, 0);
    Due.is("a form with itself", Due.spelling(x, 5), "2a-2b");
    x.drop();
    Edge.is(x, 5, "sum", 2, 3);
    Due.is("numbers", Due.spelling(x, 5), "3");
    x.drop();
    Edge.is(x, 5, "sum", 1, 1);
    Due.is("of degree 6", Due.spelling(x, 5), "2a^6");

    Sentences.tries(22, "-1 either; -3 unlike DEGREES; -6 it can't come");
    for (int form : new int[] {-1, 5, Edge.MIN, Edge.MAX}) {
      Edge.refused(MadeCallEdges::five, -1, "sum", form, 0);
      Edge.refused(MadeCallEdges::five, -1, "sum", 0, form);
      Edge.refused(MadeCallEdges::five, -1, "sum", form, form);
    }
    for (int[] p : new int[][] {{0, 1}, {1, 0}, {2, 0}, {0, 4}, {4, 2}}) {
      Edge.refused(MadeCallEdges::five, -3, "sum", p);
      Edge.refused(MadeCallEdges::six, -3, "sum", p);
    }
    Edge.refused(Edge::full, -1, "sum", 6, 0);
    Edge.refused(Edge::full, -6, "sum", 0, 1);
    Edge.is(five(500000, 0).get(), 5, "sum", 0, 0);
    Edge.is(five(-500000, 0).get(), 5, "sum", 0, 0);
    Edge.refused(five(500001, 0), -6, "sum", 0, 0);
    Edge.refused(five(-500001, 0), -6, "sum", 0, 0);
  }

  private static void product() {
    Sentences.tries(23, "`int product");
    FormsAboveNought x = five();
    Edge.is(x, 5, "product", 0, 0);
    Due.is("a form with itself", Due.spelling(x, 5), "a^2-2ab+b^2");
    x.drop();
    Edge.is(x, 5, "product", 3, 3);
    Due.is("numbers", Due.spelling(x, 5), "4");
    x.drop();
    Edge.is(x, 5, "product", 1, 3);
    Due.is("of degree 6", Due.spelling(x, 5), "2a^6");

    Sentences.tries(23, "-1 either; -6 it can't come");
    for (int form : new int[] {-1, 5, Edge.MIN, Edge.MAX}) {
      Edge.refused(MadeCallEdges::five, -1, "product", form, 0);
      Edge.refused(MadeCallEdges::five, -1, "product", 0, form);
    }
    Edge.refused(MadeCallEdges::five, -6, "product", 0, 1);
    Edge.refused(MadeCallEdges::five, -6, "product", 1, 1);
    Edge.refused(Edge::full, -6, "product", 0, 1);
    Edge.refused(Edge::full, -1, "product", 0, 6);
    Edge.is(five(500000, 0).get(), 5, "product", 0, 3);
    Edge.is(five(-500000, 0).get(), 5, "product", 3, 0);
    Edge.refused(five(500001, 0), -6, "product", 0, 3);
    Edge.refused(five(-500001, 0), -6, "product", 3, 0);
    Edge.refused(five(1000000, 1000000), -6, "product", 0, 4);
    Edge.refused(five(1000000, 1000000), -6, "product", 4, 4);
  }

  private static void lift() {
    Sentences.tries(24, "`int lift");
    FormsAboveNought x = five();
    Edge.is(x, 5, "lift", 0, 0);
    Due.is("by 0", Due.spelling(x, 5), "a-b");
    x.drop();
    Edge.is(x, 5, "lift", 2, 6);
    Edge.is(x, 28, "of", 5, 3);
    x.drop();
    Edge.is(x, 5, "lift", 4, 4);
    Edge.is(x, 6, "of", 5, 2);
    x.drop();
    Edge.is(x, 5, "lift", 1, 0);

    Sentences.tries(24, "-1; -4; -6 (6; it can't come)");
    for (int form : new int[] {-1, 5, Edge.MIN, Edge.MAX}) {
      Edge.refused(MadeCallEdges::five, -1, "lift", form, 0);
      Edge.refused(MadeCallEdges::five, -1, "lift", form, -1);
      Edge.refused(MadeCallEdges::five, -1, "lift", form, 7);
    }
    for (int n : BELOW_0) {
      Edge.refused(MadeCallEdges::five, -4, "lift", 0, n);
      Edge.refused(Edge::full, -4, "lift", 0, n);
    }
    for (int n : new int[] {7, 13, Edge.MAX}) {
      Edge.refused(MadeCallEdges::five, -6, "lift", 2, n);
      Edge.refused(MadeCallEdges::five, -6, "lift", 1, n);
    }
    Edge.refused(MadeCallEdges::five, -6, "lift", 0, 6);
    Edge.refused(MadeCallEdges::five, -6, "lift", 1, 1);
    Edge.refused(MadeCallEdges::five, -6, "lift", 4, 5);
    Edge.refused(Edge::full, -6, "lift", 0, 0);
    Edge.is(five(999999, 0).get(), 5, "lift", 0, 1);
    Edge.refused(five(1000000, 0), -6, "lift", 0, 1);
    Edge.refused(five(-1000000, 0), -6, "lift", 0, 2);
  }

  private static void negative() {
    Sentences.tries(25, "`int negative");
    FormsAboveNought x = five(-1000000, 1000000).get();
    Edge.is(x, 5, "negative", 0);
    Due.is("of the least", Due.spelling(x, 5), "-a+1000000b");
    x.drop();
    Edge.is(x, 5, "negative", 4);
    Due.is("of the most", Due.spelling(x, 5), "-1000000a^2");

    Sentences.tries(25, "-1; -6 it can't come");
    for (int form : new int[] {-1, 5, Edge.MIN, Edge.MAX}) Edge.refused(MadeCallEdges::five, -1, "negative", form);
    Edge.refused(Edge::full, -6, "negative", 0);
    Edge.refused(Edge::full, -1, "negative", 6);
    Edge.refused(lessThanLeast(), -6, "negative", 0);
  }

  /** A form with a coefficient of -1000001 at b. */
  private static Supplier<FormsAboveNought> lessThanLeast() {
    return () -> {
      FormsAboveNought x = five(-1000000, 0).get();
      x.turn(0, 3, 1);
      return x;
    };
  }

  private static void on() {
    Sentences.tries(26, "`int on");
    FormsAboveNought x = five();
    Edge.is(x, 5, "on", 0, 1);
    Due.is("on a", Due.spelling(x, 5), "a");
    x.drop();
    Edge.is(x, 5, "on", 0, 7);
    Due.is("on all", Due.spelling(x, 5), "a-b");
    x.drop();
    Edge.is(x, 5, "on", 3, 4);
    Due.is("a number", Due.spelling(x, 5), "2");

    Sentences.tries(26, "-1 either; -6 it can't come");
    for (int form : new int[] {-1, 5, Edge.MIN, Edge.MAX}) Edge.refused(MadeCallEdges::five, -1, "on", form, 7);
    for (int side : new int[] {-1, 0, 8, Edge.MIN, Edge.MAX}) {
      Edge.refused(MadeCallEdges::five, -1, "on", 0, side);
      Edge.refused(Edge::full, -1, "on", 0, side);
    }
    for (int side = 1; side <= 7; side++) {
      Edge.refused(Edge::full, -6, "on", 0, side);
      if ((side & 2) != 0) {
        Edge.refused(lessThanLeast(), -6, "on", 0, side);
      } else {
        Edge.is(lessThanLeast().get(), 5, "on", 0, side);
      }
    }
  }

  private static void spelled() {
    Sentences.tries(27, "`int spelled");
    FormsAboveNought x = Edge.some();
    String text = "5a+b-c";
    Edge.is(x, 6, "spelled", 3, -1);
    for (int i = 0; i < 6; i++) Edge.is(x, text.charAt(i), "spelled", 3, i);
    for (int i : new int[] {6, 7, Edge.MAX}) Edge.is(x, -9, "spelled", 3, i);
    Edge.is(x, 1, "spelled", 2, -1);
    Edge.is(x, '7', "spelled", 2, 0);
    Edge.is(x, -9, "spelled", 2, 1);

    Sentences.tries(27, "-1; -4 below -1");
    for (int form : NO_FORM) {
      for (int i : new int[] {-2, -1, 0, Edge.MIN}) Edge.refused(-1, "spelled", form, i);
    }
    for (int i : new int[] {-2, Edge.MIN}) Edge.refused(-4, "spelled", 3, i);
    Due.refusals("-9 is not counted", x, 0, 0, 0, 0, 0, 0);
  }

  private static void lots() {
    Sentences.tries(28, "`int lots");
    FormsAboveNought x = Due.with("-1", "0", "1");
    for (int n : new int[] {1, 2, 49, 50}) {
      for (int z : new int[] {0, 1, -1, Edge.MIN, Edge.MAX}) {
        for (int form = 0; form <= 2; form++) {
          Edge.is(x, form == 0 ? n : 0, "lots", form, n, z, 0);
          Edge.is(x, form == 1 ? n : 0, "lots", form, n, z, 1);
        }
      }
    }

    Sentences.tries(28, "-1; -4 below 1; -6 50; -2");
    for (int form : NO_FORM) {
      Edge.refused(-1, "lots", form, 1, 0, 0);
      Edge.refused(-1, "lots", form, 0, 0, 2);
    }
    for (int n : new int[] {0, -1, Edge.MIN}) {
      Edge.refused(-4, "lots", 0, n, 0, 0);
      Edge.refused(-4, "lots", 0, n, 0, 2);
    }
    for (int n : new int[] {51, Edge.MAX}) {
      Edge.refused(-6, "lots", 0, n, 0, 1);
      Edge.refused(-6, "lots", 0, n, 0, 2);
    }
    for (int what : NO_BIT) {
      Edge.refused(-2, "lots", 0, 1, 0, what);
      Edge.refused(-2, "lots", 0, 50, Edge.MIN, what);
    }
  }
}
