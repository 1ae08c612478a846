/** Edges of the head "Terms": lists, lots, what can be undone, the image, refusals. */
final class StateEdges {
  private StateEdges() {
  }

  static void all() {
    lists();
    judged();
    lots();
    draws();
    undone();
    image();
    nobody();
    other();
    state();
    below();
    room();
    far();
    notCounted();
  }

  private static void tries(String words) {
    Sentences.tries("Terms", words);
  }

  private static void lists() {
    tries("LISTS 0 .. 2 are rows of ints (40 at most), missing at first");
    FormsAboveNought x = Due.with("a");
    for (int list = 0; list <= 2; list++) {
      Edge.is(x, Due.FAR + 11, "look", list, 0);
      Edge.is(x, -11, "put", list, 0, 1);
      Edge.is(x, -11, "lays", list, 0, 0);
      Edge.is(x, -11, "judge", list, 0);
      Edge.is(x, -11, "wallsLeast", list, 0);
      Edge.is(x, Due.FAR + 11, "walls", list, 0, 0);
    }
    for (int list = 0; list <= 2; list++) {
      Edge.is(x, -6, "list", list, 41);
      Edge.is(x, Due.FAR + 11, "look", list, 0);
      Edge.is(x, 1, "list", list, 40);
      Edge.is(x, 0, "look", list, 39);
      Edge.is(x, Due.FAR + 13, "look", list, 40);
      for (int v : new int[] {Edge.MIN, -1, 0, 1, Edge.MAX}) {
        Edge.is(x, 1, "put", list, 39, v);
        Edge.is(x, v, "look", list, 39);
        Edge.is(x, 1, "put", list, 0, v);
        Edge.is(x, v, "look", list, 0);
      }
      Edge.is(x, -13, "put", list, 40, 1);
    }
    Edge.is(x, -1, "list", 3, 1);
    Edge.is(x, -1, "list", -1, 1);
  }

  private static void judged() {
    tries("JUDGED: a LIST tells COEFFICIENTS of a FORM, by TERMS");
    FormsAboveNought x = Due.with("a-2b+3c", "7", "a^6-c^6");
    x.list(0, 0);
    for (int form = 0; form < 3; form++) Edge.is(x, -9, "judge", 0, form);
    x.list(0, 1);
    Edge.is(x, 0, "judge", 0, 0);
    x.put(0, 0, 7);
    Edge.is(x, -9, "judge", 0, 1);
    x.put(0, 0, 1);
    Edge.is(x, -9, "judge", 0, 0);
    x.list(0, 3);
    x.lays(0, 0, 0);
    Edge.is(x, -9, "judge", 0, 0);
    x.put(0, 2, 4);
    Edge.is(x, 2, "judge", 0, 0);
    x.put(0, 0, Edge.MIN);
    Edge.is(x, 0, "judge", 0, 0);
    x.list(0, 4);
    x.lays(0, 0, 0);
    Edge.is(x, 3, "judge", 0, 0);
    x.list(0, 40);
    x.lays(0, 0, 2);
    Edge.is(x, 28, "judge", 0, 2);
    x.list(0, 28);
    x.lays(0, 0, 2);
    Edge.is(x, -9, "judge", 0, 2);
    x.put(0, 27, 1);
    Edge.is(x, 27, "judge", 0, 2);
    x.turn(1, 3, 7);
    x.list(0, 1);
    Edge.is(x, -9, "judge", 0, 1);
  }

  /** Of a - b and c by this seed how often below 0 and how often 0 (reckoned apart); of 0 and -1 always. */
  private static void lots(int z, int n, int below, int nought, int noughtOfC) {
    FormsAboveNought x = Due.with("a-b", "c", "0a", "-1");
    Edge.is(x, below, "lots", 0, n, z, 0);
    Edge.is(x, nought, "lots", 0, n, z, 1);
    Edge.is(x, 0, "lots", 1, n, z, 0);
    Edge.is(x, noughtOfC, "lots", 1, n, z, 1);
    Edge.is(x, 0, "lots", 2, n, z, 0);
    Edge.is(x, n, "lots", 2, n, z, 1);
    Edge.is(x, n, "lots", 3, n, z, 0);
    Edge.is(x, 0, "lots", 3, n, z, 1);
  }

  private static void lots() {
    tries("LOTS with a seed z: n times (1 .. 50)");
    lots(0, 1, 1, 0, 0);
    lots(0, 2, 1, 1, 1);
    lots(0, 3, 2, 1, 1);
    lots(0, 50, 19, 4, 5);
    lots(1, 1, 0, 0, 0);
    lots(1, 50, 21, 2, 7);
    lots(77, 50, 27, 6, 6);
    FormsAboveNought x = Due.with("a");
    Edge.is(x, -4, "lots", 0, 0, 0, 0);
    Edge.is(x, -6, "lots", 0, 51, 0, 0);
  }

  private static void draws() {
    tries("A DRAW below m: z becomes z times 1664525");
    lots(-1, 50, 19, 4, 3);
    lots(Edge.MAX, 50, 19, 4, 3);
    lots(Edge.MIN, 50, 19, 4, 5);
    drawn(0, 3, 7, 6);
    drawn(1, 5, 3, 9);
    drawn(77, 1, 8, 9);
    // the ints wrap around at once; a sign's bit is no part of what is divided
    drawn(-1, 1, 0, 6);
    drawn(Edge.MAX, 1, 0, 6);
    drawn(Edge.MIN, 3, 7, 6);
    drawn(682, 4, 7, 7);
    // the least and the most that can be drawn
    drawn(1168, 0, 0, 0);
    drawn(1894, 9, 9, 9);
  }

  /** The first three draws of a seed, but for what is common to all: (ya - xb)^2 + (za - xc)^2 + (zb - yc)^2 is 0. */
  private static void drawn(int seed, int x, int y, int z) {
    FormsAboveNought f = Due.with("a^2", "a+b+c", "a", "b", "c");
    int[] numbers = {y * y + z * z, -2 * x * y, -2 * x * z, x * x + z * z, -2 * y * z, x * x + y * y};
    for (int term = 0; term < 6; term++) f.change(0, term, numbers[term]);
    Edge.is(f, 1, "lots", 0, 1, seed, 1);
    Edge.is(f, x + y + z == 0 ? 1 : 0, "lots", 1, 1, seed, 1);
    Edge.is(f, x == 0 ? 1 : 0, "lots", 2, 1, seed, 1);
    Edge.is(f, y == 0 ? 1 : 0, "lots", 3, 1, seed, 1);
    Edge.is(f, z == 0 ? 1 : 0, "lots", 4, 1, seed, 1);
  }

  private static void undone() {
    tries("What change(), turn() made can be UNDONE");
    eachCounts();
    eachTerm();
    sixteenAtMost();
    aroundTheSixteen();
    whatLeavesNone();
    whatLeavesThem();
  }

  private static void eachCounts() {
    FormsAboveNought x = Due.with("4a", "b");
    Edge.is(x, -3, "undo");
    Edge.is(x, 4, "change", 0, 0, 4);
    Edge.is(x, 1, "count", 3);
    Edge.is(x, 0, "turn", 0, 0, 0);
    Edge.is(x, 2, "count", 3);
    Edge.is(x, 4, "change", 0, 0, -1000000);
    Edge.is(x, 0, "turn", 1, 5, 9);
    Edge.is(x, Due.FAR_INT + 6, "change", 0, 0, 1000001);
    Edge.is(x, -6, "turn", 0, 1, 10);
    Edge.is(x, 4, "count", 3);
    Edge.is(x, 3, "undo");
    Edge.is(x, 0, "of", 1, 0);
    Edge.is(x, 0, "of", 1, 1);
    Edge.is(x, -1000000, "coefficient", 0, 0);
    Edge.is(x, 2, "undo");
    Edge.is(x, 4, "coefficient", 0, 0);
    Edge.is(x, 1, "undo");
    Edge.is(x, 0, "undo");
    Edge.is(x, 4, "coefficient", 0, 0);
    Edge.is(x, -3, "undo");
  }

  /** A change at each term of degree 6, between turns from each kind with a figure to another. */
  private static void eachTerm() {
    FormsAboveNought x = Due.with("a^6", "b");
    for (int term = 0; term < 28; term++) {
      int kind = term % 6;
      int figure = 9 - term % 10;
      x.turn(0, kind, figure);
      int was = x.change(0, term, 7 + term);
      x.turn(0, 5 - kind, 9 - figure);
      x.change(0, term, -1000000);
      x.undo();
      x.undo();
      Edge.is(x, kind, "of", 0, 0);
      Edge.is(x, figure, "of", 0, 1);
      Edge.is(x, 7 + term, "change", 0, term, 7 + term);
      x.undo();
      x.undo();
      Edge.is(x, was, "change", 0, term, was);
    }
  }

  private static void sixteenAtMost() {
    for (int many = 15; many <= 18; many++) {
      FormsAboveNought x = Due.with("0a");
      for (int v = 1; v <= many; v++) x.change(0, 0, v);
      int can = Math.min(many, 16);
      Edge.is(x, can, "count", 3);
      for (int n = can - 1; n >= 0; n--) Edge.is(x, n, "undo");
      Edge.is(x, many - can, "coefficient", 0, 0);
      Edge.is(x, -3, "undo");
      Edge.is(x, many - can, "coefficient", 0, 0);
    }
  }

  /** However many there were ahead, those that come behind are undone in their order. */
  private static void aroundTheSixteen() {
    for (int ahead = 0; ahead <= 33; ahead++) {
      FormsAboveNought x = Due.with("0a");
      for (int n = 0; n < ahead; n++) x.turn(0, n % 6, n % 10);
      for (int n = Math.min(ahead, 16) / 2; n > 0; n--) x.undo();
      x.turn(0, 0, 0);
      x.image();
      x.back();
      Edge.is(x, 0, "count", 3);
      for (int v = 1; v <= 20; v++) x.change(0, 0, v);
      for (int n = 15; n >= 0; n--) {
        Edge.is(x, n, "undo");
        Edge.is(x, 4 + n, "coefficient", 0, 0);
      }
      Edge.is(x, -3, "undo");
    }
  }

  /** Two forms, an image of one of them, two that can be undone. */
  private static FormsAboveNought changed() {
    FormsAboveNought x = Due.with("a");
    x.image();
    Due.form(x, "b");
    x.change(0, 0, 3);
    x.turn(1, 0, 1);
    return x;
  }

  private static void whatLeavesNone() {
    leaves(0, "", 2, "sum", 0, 1);
    leaves(0, "", 2, "product", 0, 1);
    leaves(0, "", 2, "lift", 0, 0);
    leaves(0, "", 2, "negative", 1);
    leaves(0, "", 2, "on", 0, 7);
    leaves(0, "c", 2, "form");
    leaves(0, "minus 0", 1, "acts");
    leaves(0, "minus 0;minus 1", 2, "acts");
    leaves(0, "", 1, "drop");
    leaves(0, "", 1, "back");
  }

  private static void whatLeavesThem() {
    leaves(2, "", -1, "sum", 0, 2);
    leaves(2, "", -6, "lift", 0, 6);
    leaves(2, "", -4, "lift", 0, -1);
    leaves(2, "", -1, "product", 0, 2);
    leaves(2, "", -1, "negative", 2);
    leaves(2, "", -1, "on", 0, 8);
    leaves(2, "d", -1000, "form");
    leaves(2, "", -1000, "form");
    leaves(2, "minus 0;", -1008, "acts");
    leaves(2, "minus 0;minus 3", -2008, "acts");
    leaves(2, "", 2, "image");
    leaves(2, "", 1, "list", 0, 40);
    leaves(2, "", 1, "letter", 'c');
    FormsAboveNought x = Due.with("a", "a^2");
    x.change(0, 0, 3);
    Edge.is(x, -3, "back");
    Edge.is(x, -3, "sum", 0, 1);
    Edge.is(x, 1, "count", 3);
    FormsAboveNought full = Edge.full();
    Edge.is(full, -6, "form");
    Edge.is(full, -6, "on", 0, 1);
    Edge.is(full, 1, "count", 3);
    Edge.is(full, 0, "undo");
    FormsAboveNought none = new FormsAboveNought();
    Edge.is(none, -3, "drop");
    Edge.is(none, -3, "undo");
  }

  private static void leaves(int due, String letters, long answer, String call, int... p) {
    FormsAboveNought x = changed();
    Due.type(x, letters);
    Edge.is(x, answer, call, p);
    Due.is(call + " with letters " + letters + " leaves to be undone", x.count(3), due);
    if (due == 0) Edge.is(x, -3, "undo");
  }

  private static void image() {
    tries("THE IMAGE: FORMS with all that is theirs");
    FormsAboveNought x = new FormsAboveNought();
    Edge.is(x, -3, "back");
    Edge.is(x, 0, "image");
    Due.form(x, "a-b");
    Edge.is(x, 0, "back");
    Edge.is(x, -1, "of", 0, 0);
    ofEachDegree();
    sixForms();
    allThatIsTheirs();
    takenAnew();
  }

  private static void ofEachDegree() {
    FormsAboveNought x = Due.with("2a^6-c^6", "3", "a");
    Edge.is(x, 3, "image");
    for (int n = 2; n >= 0; n--) x.drop();
    Due.form(x, "9");
    Due.form(x, "9b^6");
    Due.form(x, "9c");
    Edge.is(x, 3, "back");
    Due.is("of degree 6", Due.spelling(x, 0), "2a^6-c^6");
    Due.is("of degree 0", Due.spelling(x, 1), "3");
    Due.is("of degree 1", Due.spelling(x, 2), "a");
    for (int form = 0; form <= 2; form++) Edge.is(x, new int[] {6, 0, 1}[form], "of", form, 2);
  }

  private static void sixForms() {
    FormsAboveNought x = Edge.full();
    x.acts();
    Edge.is(x, 6, "image");
    for (int n = 5; n >= 0; n--) Edge.is(x, n, "drop");
    Edge.is(x, -3, "drop");
    Edge.is(x, 6, "back");
    Edge.is(x, -6, "negative", 0);
    Due.is("the sixth", Due.spelling(x, 5), "a-b+c");
    Due.is("the first", Due.spelling(x, 0), "a");
    Edge.is(x, 6, "back");
  }

  private static void allThatIsTheirs() {
    FormsAboveNought x = Edge.some();
    Edge.is(x, 4, "image");
    Edge.is(x, 2, "count", 3);
    Edge.is(x, 1, "undo");
    for (int form = 0; form < 4; form++) {
      x.turn(form, 4, 8);
      x.change(form, 0, 77);
    }
    Due.type(x, "+3c");
    x.put(0, 1, 6);
    x.list(2, 1);
    Edge.is(x, 4, "back");
    Edge.is(x, 0, "count", 3);
    Edge.is(x, 32, "turn", 0, 0, 0);
    Edge.is(x, 13, "turn", 1, 0, 0);
    Due.is("the first as told", Due.spelling(x, 0), "a^2-3bc+2c^2");
    Due.is("the second as told", Due.spelling(x, 1), "a-b");
    Due.is("the third", Due.spelling(x, 2), "7");
    Due.is("the fourth, changed ahead of the image", Due.spelling(x, 3), "5a+b-c");
    Edge.is(x, 6, "look", 0, 1);
    Edge.is(x, 0, "look", 2, 0);
    Edge.is(x, 7, "count", 1);
    Edge.is(x, 4, "form");
    Due.is("the letters", Due.spelling(x, 4), "2a-b+3c");
    Edge.is(x, 4, "back");
    Edge.is(x, -1, "of", 4, 0);
    Edge.is(x, 32, "turn", 0, 0, 0);
  }

  private static void takenAnew() {
    FormsAboveNought x = Due.with("a", "b");
    Edge.is(x, 2, "image");
    x.change(0, 0, 5);
    x.drop();
    Edge.is(x, 1, "image");
    x.change(0, 0, 6);
    Due.form(x, "c");
    Edge.is(x, 1, "back");
    Edge.is(x, 1, "count", 0);
    Edge.is(x, 5, "coefficient", 0, 0);
    x.drop();
    Edge.is(x, 0, "image");
    Edge.is(x, 0, "back");
  }

  private static void nobody() {
    tries("REFUSALS (the call answers the number, the first that fits");
    for (int form : new int[] {-1, 4, Edge.MIN, Edge.MAX}) {
      Edge.refused(-1, "proof", form, 7);
      Edge.refusedFarInt(-1, "coefficient", form, 0);
    }
    for (int term : new int[] {-1, 6, Edge.MIN, Edge.MAX}) Edge.refusedFarInt(-1, "coefficient", 0, term);
    for (int list : new int[] {-1, 3, Edge.MIN, Edge.MAX}) Edge.refused(-1, "list", list, 1);
    for (int side : new int[] {-1, 0, 8, Edge.MIN, Edge.MAX}) Edge.refused(-1, "proof", 0, side);
    for (int set : new int[] {-1, 0, 16, 17, 32, Edge.MIN, Edge.MIN + 1, Edge.MAX}) {
      Edge.refusedFar(-1, "made", 0, set, 0, 0);
    }
    // the first that fits in the order in which the call tells them
    Edge.refusedFar(-1, "lifted", 4, 8, -1, -1);
    Edge.refusedFar(-4, "lifted", 0, 7, -1, -1);
    Edge.refusedFar(-6, "lifted", 0, 7, 13, -1);
    Edge.refused(-2, "fault", 0, 7, -1, 2);
    Edge.refusedFar(-4, "lowest", 0, 7, 0, 2);
    Edge.refused(-4, "lots", 0, 0, 0, 2);
    Edge.refused(-6, "lots", 0, 51, 0, 2);
    FormsAboveNought x = new FormsAboveNought();
    for (int n = 1; n <= 3; n++) {
      Edge.is(x, -1, "proof", 0, 7);
      Edge.is(x, n, "count", 11);
    }
    Due.refusals("three of nobody", x, 3, 0, 0, 0, 0, 0);
  }

  private static void other() {
    tries("-2 OTHER: what, KIND, SORT, part");
    for (int odd : new int[] {-1, Edge.MIN, Edge.MAX}) {
      Edge.refused(-2, "of", 0, odd);
      Edge.refused(-2, "taken", 0, odd);
      Edge.refused(-2, "least", 0, 7, odd);
      Edge.refusedFar(-2, "share", 0, 7, 1, odd);
    }
    Edge.refused(-2, "of", 0, 6);
    Edge.refused(-2, "taken", 0, 6);
    Edge.refused(-2, "least", 0, 7, 2);
    Edge.refusedFar(-2, "share", 0, 7, 1, 2);
  }

  private static void state() {
    tries("-3 STATE: it is not as it must be");
    Edge.refused(FormsAboveNought::new, -3, "drop");
    Edge.refused(FormsAboveNought::new, -3, "undo");
    Edge.refused(FormsAboveNought::new, -3, "back");
    Edge.refused(-3, "sum", 0, 1);
    Edge.refusedFar(-3, "made", 0, 2, 1, 0);
  }

  private static void below() {
    tries("-4 BELOW: a number below the least");
    Edge.refused(-4, "letter", -1);
    Edge.refusedFarInt(-4, "change", 0, 0, -1000001);
    Edge.refused(-4, "turn", 0, 0, -1);
    Edge.refused(-4, "spelled", 0, -2);
    Edge.refusedFar(-4, "value", 0, 0, 0, -1);
    Edge.refusedFar(-4, "share", 0, 7, 0, 0);
  }

  private static void room() {
    tries("-6 ROOM: a number above the greatest, no room");
    Edge.refused(-6, "letter", 256);
    Edge.refusedFarInt(-6, "change", 0, 0, 1000001);
    Edge.refused(-6, "turn", 0, 0, 10);
    Edge.refusedFar(-6, "value", 0, 0, 0, 13);
    Edge.refused(Edge::full, -6, "form");
    Edge.refused(Edge::full, -6, "negative", 0);
  }

  private static void far() {
    tries("\"Refused far\": of longs 4000000000000000000 less them");
    FormsAboveNought x = Edge.some();
    Due.is("-1 of longs", x.value(9, 0, 0, 0), 4000000000000000001L);
    Due.is("-2 of longs", x.share(0, 7, 1, 2), 4000000000000000002L);
    Due.is("-3 of longs", x.made(0, 2, 0, 0), 4000000000000000003L);
    Due.is("-4 of longs", x.value(0, -1, 0, 0), 4000000000000000004L);
    Due.is("-6 of longs", x.value(0, 13, 0, 0), 4000000000000000006L);
    Due.is("-11 of longs", x.look(2, 0), 4000000000000000011L);
    Due.is("-11 of longs", x.walls(2, 0, 0), 4000000000000000011L);
    Due.is("-13 of longs", x.look(0, 3), 4000000000000000013L);
    Due.is("-1 of ints", x.coefficient(9, 0), 1000000001);
    Due.is("-4 of ints", x.change(0, 0, -1000001), 1000000004);
    Due.is("-6 of ints", x.change(0, 0, 1000001), 1000000006);
    Due.refusals("far", x, 2, 1, 1, 2, 0, 2);
  }

  private static void notCounted() {
    tries("Not counted: of LISTS -11 it is missing");
    Edge.refused(-11, "put", 2, 0, 0);
    Edge.refused(-11, "lays", 2, 0, 0);
    Edge.refused(-11, "judge", 2, 0);
    Edge.refused(-11, "wallsLeast", 2, 0);
    Edge.refusedFar(-11, "look", 2, 0);
    Edge.refusedFar(-11, "walls", 2, 0, 0);
    Edge.refused(-13, "put", 0, 3, 0);
    Edge.refused(-13, "lays", 0, 0, 0);
    Edge.refusedFar(-13, "look", 0, 3);
    Edge.refused(-14, "list", 0, -1);
    Edge.refused(-16, "taken", 0, 1);
    FormsAboveNought x = new FormsAboveNought();
    Edge.is(x, -9, "count", 10);
    Edge.is(x, -9, "count", 5);
    Due.refusals("-9 is none of them", x, 0, 0, 0, 0, 0, 0);
  }
}
