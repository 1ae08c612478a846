/** Promises 1 to 11: letters, texts of forms and of acts, forms and their coefficients. */
public final class FormsTest {
  public static void main(String[] args) {
    aNewObject();
    letters();
    formsThatCome();
    formsWithAFault();
    formsAndRoom();
    actsThatAreDone();
    actsWithAFault();
    actsThatCannotBe();
    drops();
    changes();
    turns();
    whatAFormIs();
    kindsTaken();
    coefficientsByKind();
    values();
    Due.end();
  }

  private static void aNewObject() {
    FormsAboveNought x = new FormsAboveNought();
    for (int what = 0; what <= 4; what++) Due.is("new: count " + what, x.count(what), 0);
    Due.refusals("new", x, 0, 0, 0, 0, 0, 0);
    Due.is("new: no form", x.of(0, 0), -1);
    Due.is("new: no list", x.look(0, 0), Due.FAR + 11);
    Due.is("new: no image", x.back(), -3);
  }

  private static void letters() {
    FormsAboveNought x = new FormsAboveNought();
    Due.is("letter below", x.letter(-1), -4);
    Due.is("letter above", x.letter(256), -6);
    Due.is("letter 0", x.letter(0), 1);
    Due.is("letter 255", x.letter(255), 2);
    for (int n = 3; n <= 72; n++) Due.is("letter " + n, x.letter('a'), n);
    Due.is("letter 73", x.letter('a'), -6);
    Due.is("letter 73 below", x.letter(Integer.MIN_VALUE), -4);
    Due.is("letters", x.count(1), 72);
    Due.refusals("letters", x, 0, 0, 0, 2, 0, 2);
  }

  private static void formsThatCome() {
    comes("a", "a");
    comes("-a", "-a");
    comes("a^1b^1c^1", "abc");
    comes("2ab-3ab+ac", "-ab+ac");
    comes("0a+b", "b");
    comes("007c", "7c");
    comes("a-a", "0");
    comes("0", "0");
    comes("-0", "0");
    comes("-7", "-7");
    comes("3+4-1", "6");
    comes("1-2", "-1");
    comes("999a^6-999a^5b-999c^6", "999a^6-999a^5b-999c^6");
    comes("c^2+bc+b^2+ac+ab+a^2", "a^2+ab+ac+b^2+bc+c^2");
    comes("a^5b^1+a^2b^2c^2", "a^5b+a^2b^2c^2");
    comes("1a-1b+10c", "a-b+10c");
    comes("999a+999a+999a+999a+999a+999a+999a+999a+999a+999a+999a+999a+999a+999a+2a", "13988a");
  }

  private static void comes(String text, String due) {
    FormsAboveNought x = new FormsAboveNought();
    Due.is("form " + text, Due.form(x, text), 0);
    Due.is("spelled " + text, Due.spelling(x, 0), due);
    Due.is("kind of " + text, x.of(0, 0), 0);
    Due.is("figure of " + text, x.of(0, 1), 0);
    Due.is("letters behind " + text, x.count(1), 0);
  }

  private static void formsWithAFault() {
    fault("", 0);
    fault("-", 1);
    fault("--a", 1);
    fault("+a", 0);
    fault(" a", 0);
    fault("A", 0);
    fault("d", 0);
    fault("1234a", 3);
    fault("0000", 3);
    fault("ba", 1);
    fault("aa", 1);
    fault("a^0", 2);
    fault("a^7", 2);
    fault("a^", 2);
    fault("a^^", 2);
    fault("a^b", 2);
    fault("a^12", 3);
    fault("a2", 1);
    fault("7^2", 1);
    fault("^2", 0);
    fault("a^6b", 3);
    fault("a^6b^1", 3);
    fault("a^5b^2", 5);
    fault("a^4b^2c", 6);
    fault("a^4bc^2", 6);
    fault("a+", 2);
    fault("a+-b", 2);
    fault("a+b^2", 4);
    fault("a+bc", 3);
    fault("a^2+ab^2", 7);
    fault("a^2+b", 5);
    fault("a^2+b-c^2", 5);
    fault("a^2+3", 5);
    fault("a^2+c^1", 7);
    fault("a+3x", 3);
    fault("7+a", 2);
    fault("7a+12", 5);
    fault("a*b", 1);
    fault("a ", 1);
    fault("a\u0000", 1);
    fault("a^3+a^2b\u00ffc", 8);
    StringBuilder most = new StringBuilder("a");
    while (most.length() < 71) most.append("+a");
    comes(most.toString(), "36a");
    fault(most.append('+').toString(), 72);
  }

  private static void fault(String text, int place) {
    FormsAboveNought x = Due.with("a");
    x.change(0, 0, 5);
    Due.is("form " + text, Due.form(x, text), -1000 - place);
    Due.is("letters behind " + text, x.count(1), 0);
    Due.is("forms behind " + text, x.count(0), 1);
    Due.is("can be undone behind " + text, x.count(3), 1);
    Due.refusals("fault " + text, x, 0, 0, 0, 0, 0, 0);
  }

  private static void formsAndRoom() {
    FormsAboveNought x = Due.with("a", "b", "c", "1", "a^6", "0");
    Due.type(x, "x");
    Due.is("a seventh", x.form(), -6);
    Due.is("its letters stay", x.count(1), 1);
    Due.refusals("a seventh", x, 0, 0, 0, 0, 0, 1);
    x.drop();
    Due.is("then it is read", x.form(), -1000);
    x.change(0, 0, 3);
    Due.is("what a form leaves", x.count(3), 1);
    Due.is("again a sixth", Due.form(x, "2c"), 5);
    Due.is("a form leaves none", x.count(3), 0);
    Due.is("a slot used again is new", Due.spelling(x, 5), "2c");
  }

  private static void actsThatAreDone() {
    FormsAboveNought x = Due.with("a-b", "a+b");
    x.change(0, 0, 1);
    Due.is("acts", Due.acts(x, "times 0 1;minus 2;lift 0 2;side 4 5"), 4);
    Due.is("letters behind acts", x.count(1), 0);
    Due.is("times", Due.spelling(x, 2), "a^2-b^2");
    Due.is("minus", Due.spelling(x, 3), "-a^2+b^2");
    Due.is("lift", Due.spelling(x, 4), "a^3+a^2b+2a^2c-ab^2+ac^2-b^3-2b^2c-bc^2");
    Due.is("side", Due.spelling(x, 5), "a^3+2a^2c+ac^2");
    Due.is("acts leave none", x.count(3), 0);
    Due.is("sum", Due.acts(Due.with("a", "b"), "sum 0 1"), 1);
  }

  private static void actsWithAFault() {
    actFault("", 0);
    actFault(";sum 0 0", 0);
    actFault("sum 0 0;", 8);
    actFault("sum 0 0;;", 8);
    actFault("sum 0 0,", 7);
    actFault("sum 0 00", 7);
    actFault("sum 0 0 ", 7);
    actFault("sum", 3);
    actFault("sum ", 4);
    actFault("sum 0", 5);
    actFault("sum 0 ", 6);
    actFault("sum  0 0", 4);
    actFault("sum 0  0", 6);
    actFault("sum0 0", 3);
    actFault("sum 0;", 5);
    actFault("sum a 0", 4);
    actFault("sun 0 0", 0);
    actFault("su", 0);
    actFault("summ 0 0", 0);
    actFault("suma 0 0", 0);
    actFault("sumz 0 0", 0);
    actFault("sum` 0 0", 3);
    actFault("sum{ 0 0", 3);
    actFault("dum 0 0", 0);
    actFault("sumA 0 0", 3);
    actFault("Sum 0 0", 0);
    actFault(" sum 0 0", 0);
    actFault("minus 0 0", 7);
    actFault("minus 0;lifts 0 0", 8);
    actFault("minus 0;lift 0 0;side 0 1;times 0", 33);
    actFault("minus 9;x", 8);
    actFault("minus 9;minus\u0000", 13);
    actFault("minus 9;minus \u00ff", 14);
    actFault("minus 0;minus 0;minus 0;minus 0;minus 0;minus 0;minus 0;minus 0;minus 0;", 72);
    actFault("{um 0 0", 0);
    actFault("`um 0 0", 0);
    actFault("sum / 0", 4);
    actFault("sum : 0", 4);
  }

  private static void actFault(String text, int place) {
    FormsAboveNought x = Due.with("a");
    x.turn(0, 3, 2);
    Due.is("acts " + text, Due.acts(x, text), -1000 - place);
    Due.is("letters behind " + text, x.count(1), 0);
    Due.is("forms behind " + text, x.count(0), 1);
    Due.is("can be undone behind " + text, x.count(3), 1);
    Due.refusals("acts " + text, x, 0, 0, 0, 0, 0, 0);
  }

  private static void actsThatCannotBe() {
    cannot("minus 3", 0);
    cannot("minus 2;minus 4", 8);
    cannot("minus 0;minus 3;minus 4;minus 5", 24);
    cannot("sum 0 2", 0);
    cannot("sum 0 3", 0);
    cannot("sum 3 0", 0);
    cannot("times 1 3", 0);
    cannot("times 3 1", 0);
    cannot("times 2 2;times 3 3", 10);
    cannot("lift 0 1;lift 2 5", 9);
    cannot("lift 0 7", 0);
    cannot("lift 3 0", 0);
    cannot("side 0 0", 0);
    cannot("side 0 8", 0);
    cannot("side 0 7;side 0 9", 9);
    cannot("side 3 1", 0);
    cannot("minus 0;minus 0;minus 0;minus 0", 24);
    cannot("minus 0;minus 0;minus 0;minus 0;minus 0;minus 0;minus 0;minus 0;minus 0", 24);
    cannot("times 1 1", 0);
    cannot("lift 1 1", 0);
  }

  /** Of acts with a (0), 999999a-b (1) and c^2 (2) on the shelf; one can't be done. */
  private static void cannot(String text, int place) {
    FormsAboveNought x = Due.with("a", "999a-b", "c^2");
    x.change(1, 0, 1000000);
    x.change(1, 1, -1);
    x.change(1, 2, 1);
    Due.is("acts " + text, Due.acts(x, text), -2000 - place);
    Due.is("letters behind " + text, x.count(1), 0);
    Due.is("forms behind " + text, x.count(0), 3);
    Due.is("can be undone behind " + text, x.count(3), 3);
    Due.refusals("acts " + text, x, 0, 0, 0, 0, 0, 0);
  }

  private static void drops() {
    FormsAboveNought x = Due.with("a", "b");
    x.change(0, 0, 2);
    Due.is("drop", x.drop(), 1);
    Due.is("drop leaves none", x.count(3), 0);
    Due.is("the last is no more", x.of(1, 2), -1);
    Due.is("the first stays", Due.spelling(x, 0), "2a");
    Due.is("drop again", x.drop(), 0);
    Due.is("drop of none", x.drop(), -3);
    Due.refusals("drop", x, 1, 0, 1, 0, 0, 0);
  }

  private static void changes() {
    FormsAboveNought x = Due.with("4a^2-5bc");
    Due.is("change", x.change(0, 4, 9), -5);
    Due.is("change again", x.change(0, 4, -1000000), 9);
    Due.is("change to the most", x.change(0, 4, 1000000), -1000000);
    Due.is("no such form", x.change(1, 0, 0), Due.FAR_INT + 1);
    Due.is("form below", x.change(-1, 0, 0), Due.FAR_INT + 1);
    Due.is("no such term", x.change(0, 6, 2000000), Due.FAR_INT + 1);
    Due.is("term below", x.change(0, -1, 0), Due.FAR_INT + 1);
    Due.is("v below", x.change(0, 0, -1000001), Due.FAR_INT + 4);
    Due.is("v above", x.change(0, 0, 1000001), Due.FAR_INT + 6);
    Due.refusals("change", x, 4, 0, 0, 1, 0, 1);
    x.turn(0, 1, 0);
    Due.is("the told number, not the coefficient", x.change(0, 0, 3), 4);
    Due.is("it is a told number that changes", x.coefficient(0, 3), 3);
  }

  private static void turns() {
    FormsAboveNought x = Due.with("a");
    Due.is("turn", x.turn(0, 3, 7), 0);
    Due.is("turn again", x.turn(0, 5, 9), 37);
    Due.is("turn back", x.turn(0, 0, 0), 59);
    Due.is("no form", x.turn(1, 6, -1), -1);
    Due.is("no kind", x.turn(0, 6, -1), -2);
    Due.is("kind below", x.turn(0, -1, 0), -2);
    Due.is("figure below", x.turn(0, 0, -1), -4);
    Due.is("figure above", x.turn(0, 0, 10), -6);
    Due.refusals("turn", x, 1, 2, 0, 1, 0, 1);
    Due.is("turns that can be undone", x.count(3), 3);
  }

  private static void whatAFormIs() {
    FormsAboveNought x = Due.with("a^2-4bc+2c^2", "-3");
    x.turn(0, 3, 2);
    is(x, 0, 3, 2, 2, 6, 1, 5);
    x.turn(0, 0, 4);
    is(x, 0, 0, 4, 2, 6, 3, 1);
    is(x, 1, 0, 0, 0, 1, 0, 1);
    Due.is("no form", x.of(2, 9), -1);
    Due.is("no what", x.of(0, 6), -2);
    Due.is("what below", x.of(0, -1), -2);
    Due.refusals("of", x, 1, 2, 0, 0, 0, 0);
  }

  private static void is(FormsAboveNought x, int form, int... due) {
    for (int what = 0; what < 6; what++) Due.is("of(" + form + ", " + what + ")", x.of(form, what), due[what]);
  }

  private static void kindsTaken() {
    String[] under = {"012345", "14", "25", "3", "4", "5"};
    FormsAboveNought x = Due.with("a");
    for (int own = 0; own < 6; own++) {
      x.turn(0, own, 0);
      for (int kind = 0; kind < 6; kind++) {
        int due = under[kind].indexOf('0' + own) >= 0 ? own : -16;
        Due.is("kind " + own + " taken for " + kind, x.taken(0, kind), due);
      }
    }
    Due.is("no form", x.taken(1, 7), -1);
    Due.is("no kind", x.taken(0, 6), -2);
    Due.is("kind below", x.taken(0, -1), -2);
    Due.refusals("taken", x, 1, 2, 0, 0, 0, 0);
  }

  private static void coefficientsByKind() {
    FormsAboveNought x = Due.with("1a^2+2ab+3ac+4b^2+5bc+6c^2");
    kind(x, 0, 1, 2, 3, 4, 5, 6);
    kind(x, 1, 6, 3, 5, 1, 2, 4);
    kind(x, 2, 1, 0, 0, 4, 5, 6);
    kind(x, 3, -6, -5, -4, -3, -2, -1);
    kind(x, 4, 4, 5, 2, 6, 3, 1);
    kind(x, 5, 1, 0, 0, 4, 0, 0);
    Due.is("no form", x.coefficient(1, 0), Due.FAR_INT + 1);
    Due.is("no term", x.coefficient(0, 6), Due.FAR_INT + 1);
    Due.is("term below", x.coefficient(0, -1), Due.FAR_INT + 1);
    Due.refusals("coefficient", x, 3, 0, 0, 0, 0, 0);
    FormsAboveNought y = Due.with("a^3+2a^2b+3a^2c+4ab^2+5abc+6ac^2+7b^3+8b^2c+9bc^2+10c^3");
    kind(y, 1, 10, 6, 9, 3, 5, 8, 1, 2, 4, 7);
    kind(y, 4, 7, 8, 4, 9, 5, 2, 10, 6, 3, 1);
    kind(y, 2, 0, 2, 3, 0, 0, 0, 7, 8, 9, 10);
    kind(y, 5, 0, 2, 0, 0, 0, 0, 7, 0, 0, 0);
  }

  private static void kind(FormsAboveNought x, int kind, int... due) {
    x.turn(0, kind, 7);
    for (int term = 0; term < due.length; term++) {
      Due.is("kind " + kind + " at " + term, x.coefficient(0, term), due[term]);
    }
  }

  private static void values() {
    FormsAboveNought x = Due.with("a^2-3bc+2c^2", "5", "a^2b^3c", "a+b");
    Due.is("value", x.value(0, 3, 4, 5), 9 - 60 + 50);
    Due.is("value at nought", x.value(0, 0, 0, 0), 0);
    Due.is("a number alone", x.value(1, 0, 0, 0), 5);
    Due.is("the most", x.value(2, 12, 12, 12), 144L * 1728 * 12);
    Due.is("powers", x.value(2, 2, 3, 5), 4 * 27 * 5);
    x.turn(3, 1, 0);
    Due.is("by kind", x.value(3, 1, 10, 3), 10 + 3);
    Due.is("no form", x.value(4, -1, 0, 0), Due.FAR + 1);
    Due.is("x below", x.value(0, -1, 13, 0), Due.FAR + 4);
    Due.is("y below", x.value(0, 13, -1, 0), Due.FAR + 4);
    Due.is("z below", x.value(0, 13, 0, -1), Due.FAR + 4);
    Due.is("x above", x.value(0, 13, 0, 0), Due.FAR + 6);
    Due.is("y above", x.value(0, 0, 13, 0), Due.FAR + 6);
    Due.is("z above", x.value(0, 0, 0, 13), Due.FAR + 6);
    Due.refusals("value", x, 1, 0, 0, 3, 0, 3);
  }
}
