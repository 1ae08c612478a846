/** Promises 29 to 37: lists, what is undone, the image, counts. */
public final class ImageTest {
  public static void main(String[] args) {
    lists();
    listsRefused();
    laid();
    judged();
    undone();
    undoneNoMore();
    whatLeavesNone();
    image();
    counts();
    Due.end();
  }

  private static void lists() {
    FormsAboveNought x = new FormsAboveNought();
    for (int list = 0; list < 3; list++) {
      Due.is("missing", x.look(list, 0), Due.FAR + 11);
      Due.is("missing", x.put(list, 0, 1), -11);
      Due.is("list", x.list(list, 40), 1);
      Due.is("put", x.put(list, 39, Integer.MIN_VALUE), 1);
      Due.is("put", x.put(list, 0, Integer.MAX_VALUE), 1);
      Due.is("look", x.look(list, 39), Integer.MIN_VALUE);
      Due.is("look", x.look(list, 0), Integer.MAX_VALUE);
      Due.is("look at another", x.look(list, 1), 0);
      Due.is("list again", x.list(list, 2), 1);
      Due.is("is all 0", x.look(list, 0), 0);
      Due.is("and short", x.look(list, 2), Due.FAR + 13);
      Due.is("list again", x.list(list, 40), 1);
      Due.is("is all 0", x.look(list, 39), 0);
    }
    x.put(1, 5, 8);
    Due.is("lists are apart", x.look(0, 5) + x.look(2, 5), 0);
    Due.is("an empty one", x.list(1, 0), 1);
    Due.is("has no place", x.put(1, 0, 1), -13);
    Due.refusals("lists", x, 0, 0, 0, 0, 0, 0);
  }

  private static void listsRefused() {
    FormsAboveNought x = new FormsAboveNought();
    Due.is("no list", x.list(3, 41), -1);
    Due.is("list below", x.list(-1, -1), -1);
    Due.is("n above", x.list(0, 41), -6);
    Due.is("n below", x.list(0, -1), -14);
    Due.is("n far below", x.list(0, Integer.MIN_VALUE), -14);
    Due.is("so it is missing", x.look(0, -1), Due.FAR + 11);
    x.list(0, 3);
    Due.is("put: no list", x.put(3, 0, 0), -1);
    Due.is("put: missing", x.put(1, -1, 0), -11);
    Due.is("put: no place", x.put(0, 3, 0), -13);
    Due.is("put: place below", x.put(0, -1, 0), -13);
    Due.is("look: no list", x.look(-1, 0), Due.FAR + 1);
    Due.is("look: missing", x.look(2, -1), Due.FAR + 11);
    Due.is("look: no place", x.look(0, 3), Due.FAR + 13);
    Due.is("look: place below", x.look(0, -1), Due.FAR + 13);
    x.put(0, 0, 4);
    Due.is("refused", x.list(0, -2), -14);
    Due.is("it stays", x.look(0, 0), 4);
    Due.refusals("lists", x, 4, 0, 0, 0, 0, 1);
  }

  private static void laid() {
    FormsAboveNought x = Due.with("a^2+2ab+3ac+4b^2+5bc+6c^2", "-7");
    x.turn(0, 1, 0);
    x.list(2, 8);
    for (int i = 0; i < 8; i++) x.put(2, i, 9);
    Due.is("lays", x.lays(2, 1, 0), 6);
    row(x, 2, 9, 6, 3, 5, 1, 2, 4, 9);
    Due.is("lays at the end", x.lays(2, 7, 1), 1);
    row(x, 2, 9, 6, 3, 5, 1, 2, 4, -7);
    Due.is("not all have a place", x.lays(2, 3, 0), -13);
    Due.is("place below", x.lays(2, -1, 1), -13);
    Due.is("place behind", x.lays(2, 8, 1), -13);
    Due.is("place far behind", x.lays(2, Integer.MAX_VALUE, 0), -13);
    row(x, 2, 9, 6, 3, 5, 1, 2, 4, -7);
    Due.is("to the last place", x.lays(2, 2, 0), 6);
    Due.is("missing", x.lays(0, -1, 0), -11);
    Due.is("no list", x.lays(3, 0, 0), -1);
    Due.is("no form", x.lays(0, 0, 2), -1);
    Due.refusals("lays", x, 2, 0, 0, 0, 0, 0);
  }

  private static void row(FormsAboveNought x, int list, int... due) {
    for (int i = 0; i < due.length; i++) Due.is("look(" + list + ", " + i + ")", x.look(list, i), due[i]);
  }

  private static void judged() {
    FormsAboveNought x = Due.with("a-2b+3c");
    Due.is("missing", x.judge(0, 0), -11);
    x.list(0, 0);
    Due.is("none told", x.judge(0, 0), -9);
    x.list(0, 2);
    x.put(0, 0, 1);
    Due.is("the second is otherwise", x.judge(0, 0), 1);
    x.put(0, 1, -2);
    Due.is("fewer", x.judge(0, 0), -9);
    x.list(0, 5);
    Due.is("the first is otherwise", x.judge(0, 0), 0);
    x.lays(0, 0, 0);
    Due.is("a term that isn't there", x.judge(0, 0), 3);
    x.turn(0, 3, 1);
    Due.is("by kind", x.judge(0, 0), 0);
    Due.is("no list", x.judge(-1, 0), -1);
    Due.is("no form", x.judge(1, 1), -1);
    Due.refusals("judge", x, 2, 0, 0, 0, 0, 0);
  }

  private static void undone() {
    FormsAboveNought x = Due.with("a+2b+3c", "5a");
    Due.is("none", x.undo(), -3);
    x.change(0, 1, 7);
    x.turn(0, 3, 4);
    x.change(1, 2, 9);
    x.change(0, 1, 7);
    x.turn(0, 3, 4);
    x.change(0, 3, 7);
    x.turn(0, 6, 4);
    Due.is("can be undone", x.count(3), 5);
    Due.is("the same turn", x.undo(), 4);
    Due.is("kind stays", x.of(0, 0), 3);
    Due.is("the same change", x.undo(), 3);
    Due.is("it stays", x.coefficient(0, 1), 7 - 4);
    Due.is("of the other", Due.spelling(x, 1), "5a+9c");
    Due.is("undo", x.undo(), 2);
    Due.is("of the other, undone", Due.spelling(x, 1), "5a");
    Due.is("undo", x.undo(), 1);
    Due.is("kind as it was", x.of(0, 0), 0);
    Due.is("figure as it was", x.of(0, 1), 0);
    Due.is("still", Due.spelling(x, 0), "a+7b+3c");
    Due.is("undo", x.undo(), 0);
    Due.is("all as it was", Due.spelling(x, 0), "a+2b+3c");
    Due.is("none", x.undo(), -3);
    Due.refusals("undo", x, 1, 1, 2, 0, 0, 0);
  }

  private static void undoneNoMore() {
    FormsAboveNought x = Due.with("a");
    for (int v = 2; v <= 40; v++) {
      x.change(0, 0, v);
      Due.is("can be undone", x.count(3), Math.min(v - 1, 16));
    }
    for (int n = 15; n >= 0; n--) {
      Due.is("undo", x.undo(), n);
      Due.is("told", x.coefficient(0, 0), 24 + n);
    }
    Due.is("older ones no more", x.undo(), -3);
    x.turn(0, 2, 5);
    Due.is("one again", x.undo(), 0);
    Due.is("as it was", x.turn(0, 0, 0), 0);
  }

  private static void whatLeavesNone() {
    FormsAboveNought x = Due.with("a", "b");
    x.image();
    x.change(0, 0, 4);
    leaves(x, "letters", x.letter('c'), 1);
    leaves(x, "form", x.form(), 0);
    leaves(x, "sum", x.sum(0, 1), 0);
    leaves(x, "product", x.product(0, 1), 0);
    leaves(x, "lift", x.lift(0, 1), 0);
    leaves(x, "negative", x.negative(0), 0);
    leaves(x, "on", x.on(0, 1), 0);
    Due.type(x, "minus 0");
    leaves(x, "acts", x.acts(), 0);
    leaves(x, "drop", x.drop(), 0);
    leaves(x, "back", x.back(), 0);
    leaves(x, "image", x.image(), 1);
    leaves(x, "refused sum", x.sum(0, 9), 2);
    leaves(x, "refused product", x.product(0, 9), 3);
    leaves(x, "refused lift", x.lift(0, 7), 4);
    leaves(x, "refused negative", x.negative(9), 5);
    leaves(x, "refused on", x.on(0, 0), 6);
    leaves(x, "form with a fault", x.form(), 7);
    leaves(x, "acts with a fault", x.acts(), 8);
    Due.type(x, "minus 9");
    leaves(x, "acts that can't be", x.acts(), 9);
    leaves(x, "a list", x.list(0, 3), 10);
    leaves(x, "refused change", x.change(0, 9, 0), 11);
    leaves(x, "refused turn", x.turn(0, 9, 0), 12);
    x.drop();
    x.drop();
    Due.is("a drop refused", x.drop(), -3);
    FormsAboveNought y = Due.with("a");
    y.change(0, 0, 5);
    leaves(y, "a back refused", y.back(), 1);
  }

  /** How many can be undone behind a call; what it brought goes, and a change comes ahead of the next. */
  private static void leaves(FormsAboveNought x, String call, int answer, int due) {
    Due.is(call + " leaves", x.count(3), due);
    if (x.count(0) > 2) x.drop();
    x.change(0, 0, 4);
  }

  private static void image() {
    FormsAboveNought x = new FormsAboveNought();
    Due.is("no image", x.back(), -3);
    Due.is("image of none", x.image(), 0);
    Due.form(x, "a-b");
    Due.is("back to none", x.back(), 0);
    Due.is("none", x.of(0, 0), -1);
    Due.form(x, "a-b");
    Due.form(x, "a^2+c^2");
    x.turn(1, 3, 1);
    x.list(0, 2);
    Due.is("image of two", x.image(), 2);
    Due.is("image leaves what can be undone", x.count(3), 1);
    x.change(0, 0, 8);
    x.turn(1, 4, 7);
    x.turn(0, 1, 2);
    x.drop();
    Due.form(x, "7");
    x.put(0, 1, 5);
    Due.type(x, "xyz");
    Due.is("back", x.back(), 2);
    Due.is("the first", Due.spelling(x, 0), "a-b");
    Due.is("the second", Due.spelling(x, 1), "-ab-ac-b^2-bc");
    Due.is("kind and figure", x.turn(1, 0, 0), 31);
    Due.is("letters stay", x.count(1), 3);
    Due.is("lists stay", x.look(0, 1), 5);
    x.drop();
    x.drop();
    Due.is("back again", x.back(), 2);
    Due.is("the second again", x.of(1, 1), 1);
    Due.is("back leaves none", x.undo(), -3);
    x.form();
    for (int n = 3; n <= 6; n++) x.negative(0);
    Due.is("image of six", x.image(), 6);
    for (int n = 5; n >= 0; n--) x.drop();
    Due.is("back to six", x.back(), 6);
    Due.is("the sixth", Due.spelling(x, 5), "-a+b");
    Due.refusals("image", x, 1, 0, 2, 0, 0, 0);
  }

  private static void counts() {
    FormsAboveNought x = Due.with("a", "-b", "a^2", "7", "0", "a^6-c^6");
    Due.type(x, "ab");
    x.turn(2, 3, 1);
    x.change(0, 0, 3);
    Due.is("forms", x.count(0), 6);
    Due.is("letters", x.count(1), 2);
    Due.is("terms", x.count(2), 3 + 3 + 6 + 1 + 1 + 28);
    Due.is("can be undone", x.count(3), 2);
    Due.is("clear ones", x.count(4), 0b011001);
    for (int what : new int[] {-1, 5, 9, 10, 17, Integer.MIN_VALUE, Integer.MAX_VALUE}) {
      Due.is("count(" + what + ")", x.count(what), -9);
    }
    Due.refusals("count", x, 0, 0, 0, 0, 0, 0);
  }
}
