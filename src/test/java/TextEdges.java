/** Edges of the head "Terms": forms and acts told in letters, their faults, acts that can't be done. */
final class TextEdges {
  private TextEdges() {
  }

  static void all() {
    formsInLetters();
    members();
    powers();
    oneDegree();
    faults();
    likePowers();
    actsInLetters();
    actsWithNumbers();
    actFaults();
    actsDone();
  }

  private static void tries(String words) {
    Sentences.tries("Terms", words);
  }

  private static void comes(String text, String due) {
    FormsAboveNought x = new FormsAboveNought();
    Due.is("form " + text, Due.form(x, text), 0);
    Due.is("text of " + text, Due.spelling(x, 0), due);
  }

  private static void fault(String text, int place) {
    Due.is("form " + text, Due.form(new FormsAboveNought(), text), -1000 - place);
  }

  private static void formsInLetters() {
    tries("A FORM is told in letters (72 at most), without blanks");
    comes("a" + "+b".repeat(35), "a+35b");
    comes("-a" + "-b".repeat(35), "-a-35b");
    comes("10a" + "+a".repeat(34), "44a");
    comes("-a^6" + "-b^6".repeat(17), "-a^6-17b^6");
    comes("100" + "+999".repeat(17), "17083");
    fault("10a" + "+a".repeat(34) + "+", 72);
    fault("+a".repeat(36), 0);
    fault("a" + "+b".repeat(35) + "c", 71);
    FormsAboveNought x = new FormsAboveNought();
    Due.type(x, "a" + "+b".repeat(35) + "+");
    Due.is("a letter behind 72", x.letter('c'), -6);
    Due.is("what 72 tell", x.form(), -1072);
    fault(" a", 0);
    fault("a ", 1);
    fault("a +b", 1);
    fault("a+ b", 2);
    fault("2 a", 1);
    fault("a^ 2", 2);
    comes("a", "a");
    comes("-a", "-a");
    fault("+a", 0);
    fault("--a", 1);
    fault("-+a", 1);
    fault("a--a", 2);
    fault("a+-a", 2);
    fault("a++a", 2);
  }

  private static void members() {
    tries("MEMBER: a number (1 to 3 digits");
    comes("1a", "a");
    comes("9a", "9a");
    comes("10a", "10a");
    comes("999a", "999a");
    fault("1000a", 3);
    fault("0001a", 3);
    fault("a+1000a", 5);
    comes("09a", "9a");
    comes("009a", "9a");
    comes("000a", "0");
    comes("0", "0");
    comes("00", "0");
    comes("000", "0");
    fault("0000", 3);
    comes("-0", "0");
    comes("0+0-1", "-1");
    comes("7", "7");
    comes("777", "777");
    comes("a^6", "a^6");
    fault("1:", 1);
    fault("1/", 1);
    fault(":", 0);
    fault("/", 0);
    comes("0a+b", "b");
  }

  private static void powers() {
    tries("POWERS: a, a^ and a digit 1 .. 6, or nothing");
    for (char c = 'a'; c <= 'c'; c++) {
      comes("" + c, "" + c);
      comes(c + "^1", "" + c);
      for (char digit = '2'; digit <= '6'; digit++) comes(c + "^" + digit, c + "^" + digit);
      for (char digit : new char[] {'0', '7', '8', '9', '/', ':', '^', '-', c}) fault(c + "^" + digit, 2);
      fault(c + "^", 2);
      fault(c + "^11", 3);
      fault("" + c + c, 1);
      fault(c + "2", 1);
      fault(c + "^1" + c, 3);
    }
    comes("abc", "abc");
    comes("ac", "ac");
    comes("a^2b^2c^2", "a^2b^2c^2");
    fault("ba", 1);
    fault("ca", 1);
    fault("cb", 1);
    fault("acb", 2);
    fault("d", 0);
    fault("`", 0);
    fault("ad", 1);
    fault("A", 0);
    fault("^", 0);
    fault("7^", 1);
    fault("", 0);
    fault("-", 1);
    fault("a+", 2);
    fault("a-", 2);
    fault("a+b-", 4);
  }

  private static void oneDegree() {
    tries("All MEMBERS have one DEGREE");
    comes("7+8", "15");
    comes("7-0", "7");
    fault("7+a", 2);
    fault("0+a", 2);
    fault("7a+a^2", 5);
    fault("a+7", 3);
    comes("a^6+a^3b^3+abc^4", "a^6+a^3b^3+abc^4");
    fault("a^6+b^5", 7);
    fault("a^6+7", 5);
    comes("abc+c^3", "abc+c^3");
    fault("abc+bc", 6);
    fault("abc+bc^3", 7);
  }

  private static void faults() {
    tries("FAULT: the place (from 0) of the first letter that can't stand there");
    // by a power above 6: the letter's place, or the digit's
    fault("a^6b", 3);
    fault("a^6c", 3);
    fault("a^3b^3c", 6);
    fault("a^5b^2", 5);
    fault("a^5b^6", 5);
    fault("a^5c^2", 5);
    fault("a^2b^2c^3", 8);
    fault("b^6c", 3);
    comes("a^5b^1", "a^5b");
    comes("ab^5", "ab^5");
    comes("a^4bc", "a^4bc");
    // from the second member on, above that of the first
    fault("a+a^2", 4);
    fault("a+ab", 3);
    fault("a+a^1b", 5);
    comes("a+a^1", "2a");
    fault("a^2+abc", 6);
    fault("a^2+a^2b", 7);
    fault("a^2+b^3", 6);
    fault("a^5+a^6", 6);
    fault("a^5+a^5b", 7);
    fault("a^5+b^6", 6);
    fault("a^5-c^6", 6);
    fault("a+b+c^2", 6);
    fault("5+5+c", 4);
    // that end with less: the place behind, also where something else is at fault there
    fault("a^2+b", 5);
    fault("a^2+b+c^2", 5);
    fault("a^2+b1", 5);
    fault("a^2+b^1", 7);
    fault("a^2+b^1c^", 9);
    fault("a^2+b^1c^2", 9);
    fault("a^2+12", 6);
    fault("a^2+12-", 6);
    fault("a^6+a^2b^2c", 11);
    fault("a^2+ca", 5);
    fault("a^2+c\u0000", 5);
    // the first that can't stand there, though one behind it can't either
    fault("xa^9", 0);
    fault("a^9b^9", 2);
    fault("a\u00ff+", 1);
    fault("ab\u0000", 2);
    // something lacks
    fault("", 0);
    fault("-", 1);
    fault("a^", 2);
    fault("a^6+", 4);
    fault("a^6+b^", 6);
    fault("a^2-7", 5);
  }

  private static void likePowers() {
    tries("What MEMBERS of like powers have is added up");
    comes("a+a", "2a");
    comes("a-a", "0");
    comes("ab-3ab+2a^1b^1", "0");
    comes("1-2", "-1");
    comes("999" + "+999".repeat(17), "17982");
    comes("-999" + "-999".repeat(16), "-16983");
    comes("a^2+ab+b^2-ab", "a^2+b^2");
    comes("5c-3c-2c+b", "b");
  }

  private static int acts(FormsAboveNought x, String text) {
    return Due.acts(x, text);
  }

  private static void done(String text, int due) {
    Due.is("acts " + text, acts(Due.with("a", "1"), text), due);
  }

  private static void actFault(String text, int place) {
    done(text, -1000 - place);
  }

  private static void actsInLetters() {
    tries("ACTS are told in letters likewise");
    done("minus 0", 1);
    done("minus 0;minus 0", 2);
    done("minus 0;minus 0;minus 0;minus 0", 4);
    String most = "minus 0" + ";minus 0".repeat(8);
    done(most, -2032);
    actFault(most + ";", 72);
    actFault(most + ",", 71);
    done("side 0 7;side 0 7;side 0 7;times 1 1", 4);
    actFault("", 0);
    actFault(";", 0);
    actFault(";minus 0", 0);
    actFault("minus 0;", 8);
    actFault("minus 0;;minus 0", 8);
    actFault("minus 0 ;minus 0", 7);
    actFault("minus 0; minus 0", 8);
    actFault(" minus 0", 0);
    actFault("minus 0 ", 7);
    actFault("minus 0:", 7);
  }

  private static void actsWithNumbers() {
    tries("ACT: a word, and numbers (each one digit, a blank ahead of each)");
    for (String word : new String[] {"sum", "times", "lift", "side"}) {
      int n = word.length();
      actFault(word, n);
      actFault(word + " ", n + 1);
      actFault(word + " 0", n + 2);
      actFault(word + " 0 ", n + 3);
      actFault(word + "0 0", n);
      actFault(word + "  0 0", n + 1);
      actFault(word + " 00", n + 2);
      actFault(word + " 0  0", n + 3);
      actFault(word + " 0 00", n + 4);
      actFault(word + " 0 0 0", n + 4);
      actFault(word + " -1 0", n + 1);
      actFault(word + " 0;", n + 2);
      actFault(word + " / 0", n + 1);
      actFault(word + " : 0", n + 1);
      actFault(word + " 0 /", n + 3);
      actFault(word + " 0 :", n + 3);
      actFault(word + " a 0", n + 1);
      actFault(word + "\u00000 0", n);
    }
    actFault("minus", 5);
    actFault("minus ", 6);
    actFault("minus0", 5);
    actFault("minus 0 0", 7);
    actFault("minus 00", 7);
    actFault("minus  0", 6);
    done("sum 0 0", 1);
    done("times 0 0", 1);
    done("lift 0 0", 1);
    done("minus 0", 1);
    done("side 0 1", 1);
    done("sum 9 9", -2000);
    done("lift 9 9", -2000);
  }

  private static void actFaults() {
    tries("FAULT: kind 1 the place of the first letter with which no such text goes on");
    String[] none = {"x", "s", "su", "sun", "summ", "sums", "sumz", "suma", "asum", "time", "timess", "lif", "lifts",
        "minu", "minuss", "sid", "sides", "z", "summinus"};
    for (String word : none) {
      actFault(word, 0);
      actFault(word + " 0 0", 0);
      actFault("minus 0;" + word, 8);
      actFault("minus 0;" + word + " 0", 8);
    }
    for (String word : new String[] {"sum", "times", "lift", "minus", "side"}) {
      for (int n = 0; n < word.length(); n++) {
        String other = word.substring(0, n) + (char) (word.charAt(n) + 1) + word.substring(n + 1);
        actFault(other + " 0 0", 0);
        actFault("minus 0;" + other + " 0", 8);
      }
    }
    actFault("sum`", 3);
    actFault("sum{", 3);
    actFault("`sum", 0);
    actFault("{sum", 0);
    actFault("Sum 0 0", 0);
    actFault("suM 0 0", 0);
    actFault("sumA 0 0", 3);
    actFault("minus 0;minus", 13);
    actFault("minus 0;minus ", 14);
    actFault("minus 0;minus x", 14);
    actFault("minus 9;side 9 9;", 17);
    actFault("minus 9;side 9 9;x", 17);
    actFault("\u0000", 0);
    actFault("\u00ff", 0);
    actFault("sum 0 0\u00ff", 7);
  }

  private static void actsDone() {
    tries("Else ACTS are done one behind the other");
    cannot("minus 3", 0);
    cannot("minus 9", 0);
    cannot("minus 2;minus 3;minus 4", -1);
    cannot("minus 2;minus 4;minus 3", 8);
    cannot("sum 0 3", 0);
    cannot("sum 3 0", 0);
    cannot("sum 0 0;sum 0 3", -1);
    cannot("sum 0 0;sum 3 4", 8);
    cannot("times 1 3", 0);
    cannot("times 3 1", 0);
    cannot("lift 3 0", 0);
    cannot("side 3 1", 0);
    cannot("side 0 0", 0);
    cannot("side 0 1", -1);
    cannot("side 0 7", -1);
    cannot("side 0 8", 0);
    cannot("side 0 9", 0);
    cannot("minus 0;minus 0;minus 0", -1);
    cannot("minus 0;minus 0;minus 0;minus 0", 24);
    cannot("minus 0;minus 0;minus 0;sum 9 9;minus 0", 24);
    cannot("sum 0 1", 0);
    cannot("lift 0 6", 0);
    cannot("lift 0 5", -1);
    cannot("lift 0 9", 0);
    cannot("times 2 2;times 3 2", 10);
    cannot("times 2 2;times 2 2;times 2 3", 20);
    cannot("times 1 1", 0);
    cannot("minus 0;times 1 1;minus 0", 8);
    Due.is("no forms at all", acts(new FormsAboveNought(), "minus 0"), -2000);
    FormsAboveNought full = Edge.full();
    full.acts();
    Due.is("six there are", acts(full, "minus 0;minus 0"), -2000);
    Due.is("six stay", full.count(0), 6);
  }

  /** Of three forms (a, 1000000, a^3): what can't be done leaves all as it was; done, if the place is below 0. */
  private static void cannot(String text, int place) {
    FormsAboveNought x = actors();
    FormsAboveNought same = actors();
    int due = place < 0 ? text.split(";").length : -2000 - place;
    Due.is("acts " + text, acts(x, text), due);
    Due.is("letters behind " + text, x.count(1), 0);
    Due.is("forms behind " + text, x.count(0), place < 0 ? 3 + due : 3);
    Due.is("can be undone behind " + text, x.count(3), place < 0 ? 0 : 2);
    Due.refusals("acts " + text, x, 0, 0, 0, 0, 0, 0);
    if (place >= 0) Due.is("all behind " + text, Edge.seen(x), Edge.seen(same));
  }

  private static FormsAboveNought actors() {
    FormsAboveNought x = Due.with("a", "1", "a^3");
    x.image();
    x.change(1, 0, 1000000);
    x.turn(0, 0, 3);
    return x;
  }
}
