/** Edges of promises 29 to 37: lists, what can be undone, the image, counts. */
final class StateCallEdges {
  private static final int[] NO_FORM = {-1, 4, Edge.MIN, Edge.MAX};
  private static final int[] NO_LIST = {-1, 3, Edge.MIN, Edge.MAX};

  private StateCallEdges() {
  }

  static void all() {
    list();
    put();
    look();
    lays();
    judge();
    undo();
    image();
    back();
    count();
  }

  /** That a list has these numbers and none behind them. */
  private static void row(FormsAboveNought x, int list, int... due) {
    for (int i = 0; i < due.length; i++) Edge.is(x, due[i], "look", list, i);
    Edge.is(x, Due.FAR + 13, "look", list, due.length);
  }

  private static void list() {
    Sentences.tries(29, "`int list");
    FormsAboveNought x = Edge.some();
    Edge.is(x, 1, "list", 0, 3);
    row(x, 0, 0, 0, 0);
    Edge.is(x, 1, "list", 2, 0);
    row(x, 2);
    Edge.is(x, 1, "list", 1, 1);
    row(x, 1, 0);
    Edge.is(x, 1, "list", 1, 40);
    row(x, 1, new int[40]);
    x.put(1, 39, 7);
    Edge.is(x, 1, "list", 1, 39);
    row(x, 1, new int[39]);
    Edge.is(x, 1, "list", 1, 40);
    row(x, 1, new int[40]);
    row(x, 0, 0, 0, 0);

    Sentences.tries(29, "-1; -6 40; -14");
    for (int list : NO_LIST) {
      for (int n : new int[] {0, 40, 41, -1, Edge.MIN, Edge.MAX}) Edge.refused(-1, "list", list, n);
    }
    for (int list = 0; list <= 2; list++) {
      for (int n : new int[] {41, Edge.MAX}) Edge.refused(-6, "list", list, n);
      for (int n : new int[] {-1, Edge.MIN}) Edge.refused(-14, "list", list, n);
    }
  }

  private static void put() {
    Sentences.tries(30, "`int put");
    FormsAboveNought x = Edge.some();
    Edge.is(x, 1, "put", 0, 0, Edge.MIN);
    Edge.is(x, 1, "put", 0, 2, Edge.MAX);
    row(x, 0, Edge.MIN, -2, Edge.MAX);
    x.list(2, 40);
    Edge.is(x, 1, "put", 2, 39, -1);
    Edge.is(x, -1, "look", 2, 39);

    Sentences.tries(30, "-1; -11; -13");
    for (int list : NO_LIST) {
      for (int i : new int[] {0, -1, 40}) Edge.refused(-1, "put", list, i, 5);
    }
    for (int i : new int[] {0, -1, 40, Edge.MIN, Edge.MAX}) Edge.refused(-11, "put", 2, i, 5);
    for (int i : new int[] {3, -1, 39, 40, Edge.MIN, Edge.MAX}) Edge.refused(-13, "put", 0, i, 5);
    for (int i : new int[] {0, -1, 1}) Edge.refused(-13, "put", 1, i, 5);
  }

  private static void look() {
    Sentences.tries(31, "`long look");
    FormsAboveNought x = Edge.some();
    row(x, 0, 1, -2, 2);
    x.put(0, 0, Edge.MIN);
    x.put(0, 2, Edge.MAX);
    Due.is("the least int", x.look(0, 0), -2147483648L);
    Due.is("the greatest int", x.look(0, 2), 2147483647L);

    Sentences.tries(31, "Refused far: -1; -11; -13");
    for (int list : NO_LIST) {
      for (int i : new int[] {0, -1, 40}) Edge.refusedFar(-1, "look", list, i);
    }
    for (int i : new int[] {0, -1, 40, Edge.MIN, Edge.MAX}) Edge.refusedFar(-11, "look", 2, i);
    for (int i : new int[] {3, -1, 39, 40, Edge.MIN, Edge.MAX}) Edge.refusedFar(-13, "look", 0, i);
    for (int i : new int[] {0, -1, 1}) Edge.refusedFar(-13, "look", 1, i);
  }

  /** Forms of 1, 3 and 28 terms, lists of none, three and forty. */
  private static FormsAboveNought layers() {
    FormsAboveNought x = Due.with("7", "a-2b+3c", "a^6-c^6");
    x.turn(1, 1, 0);
    for (int list = 0; list <= 2; list++) x.list(list, new int[] {0, 3, 40}[list]);
    x.put(1, 2, 8);
    return x;
  }

  private static void lays() {
    Sentences.tries(32, "`int lays");
    FormsAboveNought x = layers();
    Edge.is(x, 1, "lays", 1, 2, 0);
    row(x, 1, 0, 0, 7);
    Edge.is(x, 3, "lays", 1, 0, 1);
    row(x, 1, 3, 1, -2);
    Edge.is(x, 1, "lays", 1, 0, 0);
    row(x, 1, 7, 1, -2);
    Edge.is(x, 28, "lays", 2, 12, 2);
    Edge.is(x, 0, "look", 2, 11);
    Edge.is(x, 1, "look", 2, 12);
    Edge.is(x, -1, "look", 2, 39);
    Edge.is(x, 28, "lays", 2, 0, 2);
    Edge.is(x, -1, "look", 2, 27);
    Edge.is(x, 0, "look", 2, 28);
    Edge.is(x, -1, "look", 2, 39);

    Sentences.tries(32, "-1 either; -11; -13 not all have a place (none is laid)");
    for (int list : NO_LIST) Edge.refused(-1, "lays", list, 0, 0);
    for (int form : NO_FORM) {
      Edge.refused(-1, "lays", 0, 0, form);
      Edge.refused(-1, "lays", 2, 0, form);
      Edge.refused(-1, "lays", 0, -1, form);
    }
    for (int i : new int[] {0, -1, 40, Edge.MIN, Edge.MAX}) Edge.refused(-11, "lays", 2, i, 0);
    int[][] none = {{0, 0, 0}, {0, 0, 1}, {0, -1, 0}, {1, 3, 0}, {1, -1, 0}, {1, 1, 1}, {1, 2, 1}, {1, -1, 1},
        {1, 0, 2}, {2, 13, 2}, {2, 38, 1}, {2, 40, 0}, {2, -1, 2}, {2, Edge.MAX, 2}, {2, Edge.MAX - 27, 2}, {2, Edge.MIN, 2}};
    for (int[] p : none) Edge.refused(StateCallEdges::layers, -13, "lays", p);
    Edge.is(layers(), 3, "lays", 2, 37, 1);
    Edge.is(layers(), 1, "lays", 2, 39, 0);
  }

  private static void judge() {
    Sentences.tries(33, "`int judge");
    FormsAboveNought x = layers();
    for (int form = 0; form <= 2; form++) Edge.is(x, -9, "judge", 0, form);
    for (int form = 0; form <= 2; form++) Edge.is(x, 0, "judge", 1, form);
    x.lays(1, 0, 1);
    Edge.is(x, -9, "judge", 1, 1);
    x.put(1, 2, 3);
    Edge.is(x, 2, "judge", 1, 1);
    x.put(1, 0, 7);
    Edge.is(x, 1, "judge", 1, 0);
    x.lays(2, 0, 2);
    Edge.is(x, 28, "judge", 2, 2);
    x.list(1, 2);
    x.put(1, 0, 1);
    Edge.is(x, -9, "judge", 1, 2);

    Sentences.tries(33, "-1 either; -11");
    for (int list : NO_LIST) Edge.refused(-1, "judge", list, 0);
    for (int form : NO_FORM) {
      Edge.refused(-1, "judge", 0, form);
      Edge.refused(-1, "judge", 2, form);
    }
    for (int form = 0; form <= 3; form++) Edge.refused(-11, "judge", 2, form);
    Due.refusals("-9 is not counted", x, 0, 0, 0, 0, 0, 0);
  }

  private static void undo() {
    Sentences.tries(34, "`int undo()`");
    FormsAboveNought x = Due.with("a");
    x.change(0, 0, 2);
    Edge.is(x, 0, "undo");
    Edge.is(x, 1, "coefficient", 0, 0);
    for (int v = 1; v <= 17; v++) x.change(0, 1, v);
    for (int n = 15; n >= 0; n--) Edge.is(x, n, "undo");
    Edge.is(x, 1, "coefficient", 0, 1);

    Sentences.tries(34, "-3 there is none");
    Edge.is(x, -3, "undo");
    Edge.is(x, 1, "count", 13);
    Edge.refused(FormsAboveNought::new, -3, "undo");
    Edge.refused(StateCallEdges::noneToUndo, -3, "undo");
  }

  private static FormsAboveNought noneToUndo() {
    FormsAboveNought x = Edge.some();
    x.undo();
    x.undo();
    return x;
  }

  private static void image() {
    Sentences.tries(35, "`int image()`");
    FormsAboveNought x = new FormsAboveNought();
    Edge.is(x, 0, "image");
    for (int form = 1; form <= 6; form++) {
      Due.form(x, "" + form);
      Edge.is(x, form, "image");
    }
    for (int form = 5; form >= 0; form--) {
      x.drop();
      Edge.is(x, 6, "back");
      x.drop();
      Edge.is(x, 5, "image");
      Due.form(x, "6");
      Edge.is(x, 6, "image");
    }
    for (int form = 0; form < 6; form++) Edge.is(x, form + 1, "coefficient", form, 0);
    FormsAboveNought y = Edge.some();
    Edge.is(y, 4, "image");
    Due.is("an image changes nothing", counts(y), counts(Edge.some()));
    Due.refusals("an image", y, 0, 0, 0, 0, 0, 0);
  }

  private static String counts(FormsAboveNought x) {
    StringBuilder text = new StringBuilder();
    for (int what = 0; what <= 4; what++) text.append(x.count(what)).append(' ');
    return text.toString();
  }

  private static void back() {
    Sentences.tries(36, "`int back()`");
    FormsAboveNought x = Edge.some();
    Edge.is(x, 3, "back");
    Edge.is(x, 3, "count", 0);
    Edge.is(x, 0, "count", 3);
    Edge.is(x, 4, "count", 1);
    Edge.is(x, 3, "back");
    for (int n = 2; n >= 0; n--) x.drop();
    Edge.is(x, 3, "back");
    Edge.is(x, 3, "of", 0, 0);
    Edge.is(x, 0, "of", 1, 0);
    FormsAboveNought none = new FormsAboveNought();
    none.image();
    Edge.is(none, 0, "back");

    Sentences.tries(36, "-3 there is no IMAGE");
    Edge.refused(FormsAboveNought::new, -3, "back");
    Edge.refused(StateCallEdges::noImage, -3, "back");
    Edge.refused(Edge::full, -3, "back");
  }

  private static FormsAboveNought noImage() {
    FormsAboveNought x = Due.with("a", "b");
    x.change(1, 1, 4);
    Due.type(x, "c");
    return x;
  }

  private static void count() {
    Sentences.tries(37, "`int count");
    FormsAboveNought x = new FormsAboveNought();
    int[] terms = {0, 28, 56, 84, 112, 140, 168};
    for (int n = 0; n <= 6; n++) {
      Edge.is(x, n, "count", 0);
      Edge.is(x, 0, "count", 1);
      Edge.is(x, terms[n], "count", 2);
      Edge.is(x, 0, "count", 3);
      Edge.is(x, (1 << n) - 1, "count", 4);
      if (n < 6) Due.form(x, "a^6+0c^6");
    }
    x.turn(5, 3, 1);
    Edge.is(x, 0b011111, "count", 4);
    x.turn(0, 3, 0);
    Edge.is(x, 0b011111, "count", 4);
    x.change(3, 27, -1);
    Edge.is(x, 0b010111, "count", 4);
    x.turn(3, 5, 0);
    Edge.is(x, 0b011111, "count", 4);
    for (int n = 0; n < 20; n++) x.turn(1, 0, n % 10);
    Edge.is(x, 16, "count", 3);
    Due.type(x, "a".repeat(73));
    Edge.is(x, 72, "count", 1);
    Due.refusals("a letter too many", x, 0, 0, 0, 0, 0, 1);
    eachNumber();

    Sentences.tries(37, "-9 for another what");
    for (int what : new int[] {-1, 5, 6, 10, 17, Edge.MIN, Edge.MAX}) Edge.refused(-9, "count", what);
  }

  private static void eachNumber() {
    FormsAboveNought x = new FormsAboveNought();
    Edge.is(x, -1, "of", 0, 0);
    Due.refusals("-1", x, 1, 0, 0, 0, 0, 0);
    Edge.is(x, -2, "wallsLeast", 0, 2);
    Due.refusals("-2", x, 1, 1, 0, 0, 0, 0);
    Edge.is(x, -3, "drop");
    Due.refusals("-3", x, 1, 1, 1, 0, 0, 0);
    Edge.is(x, -4, "letter", -1);
    Due.refusals("-4", x, 1, 1, 1, 1, 0, 0);
    Edge.is(x, -6, "letter", 256);
    Due.refusals("-6", x, 1, 1, 1, 1, 0, 1);
    Edge.is(x, -11, "put", 0, 0, 0);
    Edge.is(x, Due.FAR + 11, "look", 0, 0);
    Edge.is(x, -14, "list", 0, -1);
    Due.refusals("what is not counted", x, 1, 1, 1, 1, 0, 1);
  }
}
