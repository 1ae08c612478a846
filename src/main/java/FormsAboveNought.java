/**
 * Forms of kinds in three letters: multiplied by powers of the sum of the letters till no term is
 * below nought, weighed at points, made of one another, read from letters and spelled again.
 */
public final class FormsAboveNought {
  private static final int NOBODY = -1;
  private static final int OTHER = -2;
  private static final int STATE = -3;
  private static final int BELOW = -4;
  private static final int ROOM = -6;
  private static final int NONE = -9;
  private static final int MISSING = -11;
  private static final int NO_PLACE = -13;
  private static final int SIZE_BELOW = -14;
  private static final int OTHER_KIND = -16;
  private static final int LAST_COUNTED = -6;
  private static final int FAR_INT = 1000000000;
  private static final long FAR_LONG = 4000000000000000000L;

  private static final int MOST_FORMS = 6;
  private static final int MOST_DEGREE = 6;
  private static final int MOST_TERMS = 28;
  private static final int MOST_LIFT = 12;
  private static final int MOST_POWER = 18;
  private static final int MOST_LIFTED_TERMS = 190;
  private static final int MOST_NUMBER = 1000000;
  private static final int MOST_FIGURE = 9;
  private static final int MOST_PLACE = 12;
  private static final int MOST_LETTERS = 72;
  private static final int MOST_SIGN = 255;
  private static final int MOST_ACTS = 9;
  private static final int MOST_LISTS = 3;
  private static final int MOST_LIST = 40;
  private static final int MOST_UNDONE = 16;
  private static final int MOST_WALLS = 16;
  private static final int MOST_POLYNOMIAL = 9;
  private static final int MOST_SET = 3;
  private static final int MOST_IN_SET = 99;
  private static final int MOST_LOTS = 50;
  private static final int DRAW_BELOW = 10;
  private static final int ALL_LETTERS = 7;

  private static final int PLAIN = 0;
  private static final int TURNED = 1;
  private static final int EVEN = 2;
  private static final int LESS = 3;
  private static final int TWICE = 4;
  private static final int FLAT = 5;
  private static final int KINDS = 6;
  private static final int[] KIND_ABOVE = {-1, PLAIN, PLAIN, PLAIN, TURNED, EVEN};

  private static final int SUM = 0;
  private static final int TIMES = 1;
  private static final int LIFT = 2;
  private static final int MINUS = 3;
  private static final int SIDE = 4;
  private static final int WORDS = 5;
  private static final int NO_WORD = -1;

  private static final int FORM_FAULT = -1000;
  private static final int ACT_FAULT = -2000;
  private static final int NO_FAULT = -1;
  private static final int A_TURN = -1;

  private final Shelf shelf = new Shelf();
  private final Letters letters = new Letters();
  private final FormReader formReader = new FormReader();
  private final ActReader actReader = new ActReader();
  private final Speller speller = new Speller();
  private final Maker maker = new Maker();
  private final UndoLog log = new UndoLog();
  private final Lists lists = new Lists();
  private final int[] refusals = new int[7];

  public FormsAboveNought() {
  }

  // ---- forms

  public int letter(int c) {
    if (c < 0) return refuse(BELOW);
    if (c > MOST_SIGN || letters.size >= MOST_LETTERS) return refuse(ROOM);
    letters.add(c);
    return letters.size;
  }

  public int form() {
    if (shelf.isFull()) return refuse(ROOM);
    int place = formReader.read(letters, shelf.forms[shelf.size]);
    letters.size = 0;
    if (place != NO_FAULT) return FORM_FAULT - place;
    shelf.size++;
    return cameOr(true);
  }

  public int acts() {
    int place = actReader.read(letters);
    letters.size = 0;
    if (place != NO_FAULT) return FORM_FAULT - place;
    place = shelf.perform(actReader);
    if (place != NO_FAULT) return ACT_FAULT - place;
    log.size = 0;
    return actReader.size;
  }

  public int drop() {
    if (shelf.size <= 0) return refuse(STATE);
    shelf.size--;
    log.size = 0;
    return shelf.size;
  }

  public int change(int form, int term, int v) {
    if (shelf.lacks(form) || lacksTerm(form, term)) return refuseFarInt(NOBODY);
    if (v < -MOST_NUMBER) return refuseFarInt(BELOW);
    if (v > MOST_NUMBER) return refuseFarInt(ROOM);
    int[] told = shelf.forms[form].told;
    int was = told[term];
    told[term] = v;
    log.add(form, term, was, 0);
    return was;
  }

  public int turn(int form, int kind, int figure) {
    if (shelf.lacks(form)) return refuse(NOBODY);
    if (notBelow(kind, KINDS)) return refuse(OTHER);
    if (figure < 0) return refuse(BELOW);
    if (figure > MOST_FIGURE) return refuse(ROOM);
    Form turned = shelf.forms[form];
    log.add(form, A_TURN, turned.kind, turned.figure);
    int was = 10 * turned.kind + turned.figure;
    turned.kind = kind;
    turned.figure = figure;
    return was;
  }

  public int of(int form, int what) {
    if (shelf.lacks(form)) return refuse(NOBODY);
    if (notBelow(what, 6)) return refuse(OTHER);
    Form asked = shelf.forms[form];
    switch (what) {
      case 0: return asked.kind;
      case 1: return asked.figure;
      case 2: return asked.degree;
      case 3: return termsOf(asked.degree);
      case 4: return asked.howMany(false);
      default: return asked.howMany(true);
    }
  }

  public int taken(int form, int kind) {
    if (shelf.lacks(form)) return refuse(NOBODY);
    if (notBelow(kind, KINDS)) return refuse(OTHER);
    int own = shelf.forms[form].kind;
    return isUnder(own, kind) ? own : OTHER_KIND;
  }

  public int coefficient(int form, int term) {
    if (shelf.lacks(form) || lacksTerm(form, term)) return refuseFarInt(NOBODY);
    return shelf.forms[form].at(term);
  }

  public long value(int form, int x, int y, int z) {
    if (shelf.lacks(form)) return refuseFar(NOBODY);
    if (x < 0 || y < 0 || z < 0) return refuseFar(BELOW);
    if (x > MOST_PLACE || y > MOST_PLACE || z > MOST_PLACE) return refuseFar(ROOM);
    return workOn(form, ALL_LETTERS).worth(x, y, z);
  }

  // ---- lifted, points

  public long lifted(int form, int side, int n, int t) {
    if (shelf.lacks(form) || !isSide(side)) return refuseFar(NOBODY);
    if (n < 0) return refuseFar(BELOW);
    if (n > MOST_LIFT) return refuseFar(ROOM);
    if (notBelow(t, placesOn(side, shelf.forms[form].degree + n))) return refuseFar(NOBODY);
    Work work = workOn(form, side);
    work.raise(side, n);
    return work.among(side, t);
  }

  public int fault(int form, int side, int n, int sort) {
    if (shelf.lacks(form) || !isSide(side)) return refuse(NOBODY);
    if (notBelow(sort, 2)) return refuse(OTHER);
    if (n < 0) return refuse(BELOW);
    if (n > MOST_LIFT) return refuse(ROOM);
    Work work = workOn(form, side);
    work.raise(side, n);
    return work.firstFault(side, sort);
  }

  public int least(int form, int side, int sort) {
    if (shelf.lacks(form) || !isSide(side)) return refuse(NOBODY);
    if (notBelow(sort, 2)) return refuse(OTHER);
    return workOn(form, side).leastLift(side, sort);
  }

  public int failing(int form, int side, int sort, int what) {
    if (shelf.lacks(form) || !isSide(side)) return refuse(NOBODY);
    if (notBelow(sort, 2) || notBelow(what, 2)) return refuse(OTHER);
    Work work = workOn(form, side);
    int n = work.failingSize(side, sort);
    return n == NONE || what == 0 ? n : work.failingPoint(side, sort, n);
  }

  public long lowest(int form, int side, int n, int what) {
    int number = pointsRefused(form, side, n, what);
    if (number < 0) return refuseFar(number);
    Work work = workOn(form, side);
    int point = work.lowestPoint(side, n);
    return what == 0 ? work.worthAt(side, n, point) : point;
  }

  public long share(int form, int side, int n, int part) {
    int number = pointsRefused(form, side, n, part);
    if (number < 0) return refuseFar(number);
    return partOf(workOn(form, side).pointsAbove(side, n), placesOn(side, n), part);
  }

  public int proof(int form, int side) {
    if (shelf.lacks(form) || !isSide(side)) return refuse(NOBODY);
    if (workOn(form, side).leastLift(side, 1) != NONE) return 0;
    if (workOn(form, side).leastLift(side, 0) != NONE) return 1;
    return workOn(form, side).failingSize(side, 0) != NONE ? 2 : 3;
  }

  // ---- walls, what is made of others

  public long walls(int list, int d, int i) {
    if (notBelow(list, MOST_LISTS)) return refuseFar(NOBODY);
    if (d < 0 || i < 0) return refuseFar(BELOW);
    if (d > MOST_WALLS || i > d) return refuseFar(ROOM);
    if (lists.misses(list)) return refuseFar(MISSING);
    if (!lists.isPolynomial(list) || d < lists.size[list] - 1) return refuseFar(STATE);
    return lists.wall(list, d, i);
  }

  public int wallsLeast(int list, int sort) {
    if (notBelow(list, MOST_LISTS)) return refuse(NOBODY);
    if (notBelow(sort, 2)) return refuse(OTHER);
    if (lists.misses(list)) return MISSING;
    if (!lists.isPolynomial(list)) return refuse(STATE);
    for (int d = Math.max(0, lists.size[list] - 1); d <= MOST_WALLS; d++) {
      if (lists.wallsClear(list, d, sort)) return d;
    }
    return NONE;
  }

  public long made(int form, int set, int g, int part) {
    if (shelf.lacks(form) || shelf.lacksOf(set) || shelf.lacks(g)) return refuseFar(NOBODY);
    if (notBelow(part, 2)) return refuseFar(OTHER);
    if (!shelf.canMake(form, set) || !maker.makes(shelf, form, set)) return refuseFar(STATE);
    return maker.fraction(set, g, part);
  }

  public int sum(int one, int other) {
    if (shelf.lacks(one) || shelf.lacks(other)) return refuse(NOBODY);
    if (shelf.forms[one].degree != shelf.forms[other].degree) return refuse(STATE);
    return cameOr(shelf.bringSum(one, other));
  }

  public int product(int one, int other) {
    if (shelf.lacks(one) || shelf.lacks(other)) return refuse(NOBODY);
    return cameOr(shelf.bringProduct(one, other));
  }

  public int lift(int form, int n) {
    if (shelf.lacks(form)) return refuse(NOBODY);
    if (n < 0) return refuse(BELOW);
    return cameOr(shelf.bringLift(form, n));
  }

  public int negative(int form) {
    if (shelf.lacks(form)) return refuse(NOBODY);
    return cameOr(shelf.bringNegative(form));
  }

  public int on(int form, int side) {
    if (shelf.lacks(form) || !isSide(side)) return refuse(NOBODY);
    return cameOr(shelf.bringOn(form, side));
  }

  public int spelled(int form, int i) {
    if (shelf.lacks(form)) return refuse(NOBODY);
    if (i < -1) return refuse(BELOW);
    speller.spell(shelf.forms[form], i);
    return i == -1 ? speller.length : speller.found;
  }

  public int lots(int form, int n, int z, int what) {
    if (shelf.lacks(form)) return refuse(NOBODY);
    if (n < 1) return refuse(BELOW);
    if (n > MOST_LOTS) return refuse(ROOM);
    if (notBelow(what, 2)) return refuse(OTHER);
    return drawLots(workOn(form, ALL_LETTERS), n, z, what);
  }

  // ---- lists of numbers

  public int list(int list, int n) {
    if (notBelow(list, MOST_LISTS)) return refuse(NOBODY);
    if (n > MOST_LIST) return refuse(ROOM);
    if (n < 0) return SIZE_BELOW;
    lists.renew(list, n);
    return 1;
  }

  public int put(int list, int i, int v) {
    if (notBelow(list, MOST_LISTS)) return refuse(NOBODY);
    if (lists.misses(list)) return MISSING;
    if (notBelow(i, lists.size[list])) return NO_PLACE;
    lists.row[list][i] = v;
    return 1;
  }

  public long look(int list, int i) {
    if (notBelow(list, MOST_LISTS)) return refuseFar(NOBODY);
    if (lists.misses(list)) return refuseFar(MISSING);
    if (notBelow(i, lists.size[list])) return refuseFar(NO_PLACE);
    return lists.row[list][i];
  }

  public int lays(int list, int i, int form) {
    if (notBelow(list, MOST_LISTS) || shelf.lacks(form)) return refuse(NOBODY);
    if (lists.misses(list)) return MISSING;
    Form laid = shelf.forms[form];
    int terms = termsOf(laid.degree);
    if (i < 0 || i > lists.size[list] - terms) return NO_PLACE;
    for (int t = 0; t < terms; t++) lists.row[list][i + t] = laid.at(t);
    return terms;
  }

  public int judge(int list, int form) {
    if (notBelow(list, MOST_LISTS) || shelf.lacks(form)) return refuse(NOBODY);
    if (lists.misses(list)) return MISSING;
    Form judged = shelf.forms[form];
    int terms = termsOf(judged.degree);
    for (int i = 0; i < lists.size[list]; i++) {
      if (i >= terms || lists.row[list][i] != judged.at(i)) return i;
    }
    return NONE;
  }

  // ---- the image

  public int undo() {
    if (log.size <= 0) return refuse(STATE);
    log.takeBack(shelf);
    return log.size;
  }

  public int image() {
    shelf.keepImage();
    return shelf.size;
  }

  public int back() {
    if (shelf.keptSize < 0) return refuse(STATE);
    shelf.restoreImage();
    log.size = 0;
    return shelf.size;
  }

  public int count(int what) {
    switch (what) {
      case 0: return shelf.size;
      case 1: return letters.size;
      case 2: return shelf.termsOfAll();
      case 3: return log.size;
      case 4: return shelf.clearForms();
      default: return what >= 11 && what <= 16 ? refusals[what - 10] : NONE;
    }
  }

  // ---- refusals

  private int refuse(int number) {
    if (number < 0 && number >= LAST_COUNTED) refusals[-number]++;
    return number;
  }

  private int refuseFarInt(int number) {
    return FAR_INT - refuse(number);
  }

  private long refuseFar(int number) {
    return FAR_LONG - refuse(number);
  }

  /** What a question about the points of a size is refused with; 0 if it is not. */
  private int pointsRefused(int form, int side, int n, int what) {
    if (shelf.lacks(form) || !isSide(side)) return NOBODY;
    if (n < 1) return BELOW;
    if (n > MOST_LIFT) return ROOM;
    return notBelow(what, 2) ? OTHER : 0;
  }

  /** The number of the form that came last; a refusal, if none could. */
  private int cameOr(boolean came) {
    if (!came) return refuse(ROOM);
    log.size = 0;
    return shelf.size - 1;
  }

  private boolean lacksTerm(int form, int term) {
    return notBelow(term, termsOf(shelf.forms[form].degree));
  }

  private Work workOn(int form, int side) {
    shelf.work.takeOn(shelf.forms[form], side);
    return shelf.work;
  }

  private static boolean notBelow(int number, int bound) {
    return number < 0 || number >= bound;
  }

  // ---- terms, kinds, sides

  private static int termsOf(int degree) {
    return (degree + 1) * (degree + 2) / 2;
  }

  /** The number of a term by the powers of b and c alone: that of a does not matter to it. */
  private static int termOf(int j, int k) {
    return (j + k) * (j + k + 1) / 2 + k;
  }

  /** The powers of b and c of a term, added. */
  private static int behindA(int term) {
    int both = 0;
    while (both < MOST_POWER && termOf(both + 1, 0) <= term) both++;
    return both;
  }

  private static boolean isUnder(int kind, int above) {
    int now = kind;
    for (int step = 0; step < KINDS; step++) {
      if (now == above) return true;
      if (notBelow(now, KINDS)) return false;
      now = KIND_ABOVE[now];
    }
    return false;
  }

  private static boolean isSide(int side) {
    return side >= 1 && side <= ALL_LETTERS;
  }

  private static boolean standsOn(int side, int i, int j, int k) {
    return (i == 0 || (side & 1) != 0) && (j == 0 || (side & 2) != 0) && (k == 0 || (side & 4) != 0);
  }

  /** How many terms of a degree, or points of a size, there are on a side. */
  private static int placesOn(int side, int n) {
    int sides = Integer.bitCount(side);
    if (sides == 1) return 1;
    return sides == 2 ? n + 1 : termsOf(n);
  }

  /** The number among all terms of a degree, or points of a size, of the p-th on a side. */
  private static int numberOn(int side, int n, int p) {
    switch (side) {
      case 1: return 0;
      case 2: return termOf(n, 0);
      case 3: return termOf(p, 0);
      case 4: return termOf(0, n);
      case 5: return termOf(0, p);
      case 6: return termOf(n - p, p);
      default: return p;
    }
  }

  private static boolean fails(long number, int sort) {
    return sort == 0 ? number < 0 : number <= 0;
  }

  // ---- fractions, lots

  private static long partOf(long above, long below, int part) {
    long common = commonOf(Math.abs(above), Math.abs(below));
    if (common == 0) return part == 0 ? 0 : 1;
    if (part != 0) return Math.abs(below) / common;
    return (below < 0 ? -above : above) / common;
  }

  private static long commonOf(long one, long other) {
    long a = one;
    long b = other;
    // numbers of 63 bits need fewer than a hundred steps
    for (int step = 0; step < 100 && b != 0; step++) {
      long rest = a % b;
      a = b;
      b = rest;
    }
    return a;
  }

  private static int drawLots(Work work, int n, int seed, int what) {
    int z = seed;
    int often = 0;
    for (int lot = 0; lot < n; lot++) {
      int first = nextSeed(z);
      int second = nextSeed(first);
      z = nextSeed(second);
      long worth = work.worth(drawOf(first), drawOf(second), drawOf(z));
      if (what == 0 ? worth < 0 : worth == 0) often++;
    }
    return often;
  }

  private static int nextSeed(int z) {
    return z * 1664525 + 1013904223;
  }

  private static int drawOf(int z) {
    return (z & 0x7fffffff) / 256 % DRAW_BELOW;
  }

  /** A form: told numbers by terms, and the kind by which they become its coefficients. */
  private static final class Form {
    final int[] told = new int[MOST_TERMS];
    int kind;
    int figure;
    int degree;

    void makeNought() {
      kind = PLAIN;
      figure = 0;
      degree = 0;
      for (int t = 0; t < MOST_TERMS; t++) told[t] = 0;
    }

    void copyOf(Form other) {
      kind = other.kind;
      figure = other.figure;
      degree = other.degree;
      for (int t = 0; t < MOST_TERMS; t++) told[t] = other.told[t];
    }

    /** The coefficient of a^i b^j c^k. */
    int has(int i, int j, int k) {
      switch (kind) {
        case TURNED: return told[termOf(k, i)];
        case EVEN: return i % 2 != 0 ? 0 : told[termOf(j, k)];
        case LESS: return told[termOf(j, k)] - figure;
        case TWICE: return told[termOf(i, j)];
        case FLAT: return k != 0 || i % 2 != 0 ? 0 : told[termOf(j, k)];
        default: return told[termOf(j, k)];
      }
    }

    int at(int term) {
      int both = behindA(term);
      int k = term - termOf(both, 0);
      return has(degree - both, both - k, k);
    }

    /** How many coefficients are below 0, or else: are 0. */
    int howMany(boolean below) {
      int many = 0;
      for (int t = 0; t < termsOf(degree); t++) {
        int number = at(t);
        if (below ? number < 0 : number == 0) many++;
      }
      return many;
    }
  }

  /** The one row on which a form is lifted, weighed at points, or made. */
  private static final class Work {
    final long[] cell = new long[MOST_LIFTED_TERMS];
    int degree;

    void makeNought(int newDegree) {
      degree = newDegree;
      for (int t = 0; t < termsOf(degree); t++) cell[t] = 0;
    }

    /** The form on a side: 0 where a letter stands that is none of the side's. */
    void takeOn(Form form, int side) {
      degree = form.degree;
      for (int both = 0; both <= degree; both++) {
        for (int k = 0; k <= both; k++) {
          int i = degree - both;
          int j = both - k;
          cell[termOf(j, k)] = standsOn(side, i, j, k) ? form.has(i, j, k) : 0;
        }
      }
    }

    void raise(int side, int n) {
      for (int step = 0; step < n; step++) raiseOnce(side);
    }

    /** Times the sum of the side's letters; from the last term on, as each needs none behind it. */
    private void raiseOnce(int side) {
      if (degree >= MOST_POWER) return;
      degree++;
      for (int both = degree; both >= 0; both--) {
        for (int k = both; k >= 0; k--) {
          int j = both - k;
          long all = 0;
          if ((side & 1) != 0 && both < degree) all += cell[termOf(j, k)];
          if ((side & 2) != 0 && j > 0) all += cell[termOf(j - 1, k)];
          if ((side & 4) != 0 && k > 0) all += cell[termOf(j, k - 1)];
          cell[termOf(j, k)] = all;
        }
      }
    }

    /** The cell of a term by its number among those of the side. */
    long among(int side, int t) {
      return cell[numberOn(side, degree, t)];
    }

    int firstFault(int side, int sort) {
      for (int t = 0; t < placesOn(side, degree); t++) {
        if (fails(among(side, t), sort)) return t;
      }
      return NONE;
    }

    int leastLift(int side, int sort) {
      for (int n = 0; n <= MOST_LIFT; n++) {
        if (n > 0) raiseOnce(side);
        if (firstFault(side, sort) == NONE) return n;
      }
      return NONE;
    }

    /** The value at whole numbers: powers of x taken out of all behind them, of y out of the rest. */
    long worth(int x, int y, int z) {
      long all = 0;
      int t = 0;
      for (int both = 0; both <= degree; both++) {
        long behind = 0;
        long power = 1;
        for (int k = 0; k <= both; k++) {
          behind = behind * y + cell[t] * power;
          power *= z;
          t++;
        }
        all = all * x + behind;
      }
      return all;
    }

    /** The value at a point by its number among those of a size on a side. */
    long worthAt(int side, int n, int point) {
      int number = numberOn(side, n, point);
      int both = behindA(number);
      int z = number - termOf(both, 0);
      return worth(n - both, both - z, z);
    }

    int failingSize(int side, int sort) {
      for (int n = 1; n <= MOST_LIFT; n++) {
        if (failingPoint(side, sort, n) != NONE) return n;
      }
      return NONE;
    }

    int failingPoint(int side, int sort, int n) {
      for (int point = 0; point < placesOn(side, n); point++) {
        if (fails(worthAt(side, n, point), sort)) return point;
      }
      return NONE;
    }

    int lowestPoint(int side, int n) {
      int lowest = 0;
      long least = worthAt(side, n, 0);
      for (int point = 1; point < placesOn(side, n); point++) {
        long worth = worthAt(side, n, point);
        if (worth < least) {
          lowest = point;
          least = worth;
        }
      }
      return lowest;
    }

    int pointsAbove(int side, int n) {
      int above = 0;
      for (int point = 0; point < placesOn(side, n); point++) {
        if (worthAt(side, n, point) > 0) above++;
      }
      return above;
    }
  }

  /** The forms, the image of them, and how new ones are made of them. */
  private static final class Shelf {
    final Form[] forms = new Form[MOST_FORMS];
    final Form[] kept = new Form[MOST_FORMS];
    final Work work = new Work();
    int size;
    int keptSize = -1;

    Shelf() {
      for (int f = 0; f < MOST_FORMS; f++) {
        forms[f] = new Form();
        kept[f] = new Form();
      }
    }

    boolean isFull() {
      return size >= MOST_FORMS;
    }

    boolean lacks(int form) {
      return notBelow(form, size);
    }

    boolean lacksOf(int set) {
      return set < 1 || set >= 1 << size;
    }

    void keepImage() {
      for (int f = 0; f < size; f++) kept[f].copyOf(forms[f]);
      keptSize = size;
    }

    void restoreImage() {
      for (int f = 0; f < keptSize; f++) forms[f].copyOf(kept[f]);
      size = keptSize;
    }

    int termsOfAll() {
      int all = 0;
      for (int f = 0; f < size; f++) all += termsOf(forms[f].degree);
      return all;
    }

    int clearForms() {
      int clear = 0;
      for (int f = 0; f < size; f++) {
        if (forms[f].howMany(true) == 0) clear |= 1 << f;
      }
      return clear;
    }

    /** Whether a set is one of which a form may be asked to be made. */
    boolean canMake(int form, int set) {
      if (Integer.bitCount(set) > MOST_SET || (set >> form & 1) != 0) return false;
      for (int f = 0; f < size; f++) {
        if (f != form && (set >> f & 1) == 0) continue;
        if (forms[f].degree != forms[form].degree || !isSmall(forms[f])) return false;
      }
      return true;
    }

    private static boolean isSmall(Form form) {
      for (int t = 0; t < termsOf(form.degree); t++) {
        if (Math.abs(form.at(t)) > MOST_IN_SET) return false;
      }
      return true;
    }

    /** All acts, or none: the place of the word of the first that can't be done. */
    int perform(ActReader acts) {
      int before = size;
      for (int n = 0; n < acts.size; n++) {
        if (!performOne(acts.word[n], acts.first[n], acts.second[n])) {
          size = before;
          return acts.place[n];
        }
      }
      return NO_FAULT;
    }

    private boolean performOne(int word, int first, int second) {
      if (lacks(first)) return false;
      switch (word) {
        case SUM: return !lacks(second) && bringSum(first, second);
        case TIMES: return !lacks(second) && bringProduct(first, second);
        case LIFT: return bringLift(first, second);
        case MINUS: return bringNegative(first);
        case SIDE: return isSide(second) && bringOn(first, second);
        default: return false;
      }
    }

    boolean bringSum(int one, int other) {
      if (forms[one].degree != forms[other].degree) return false;
      work.takeOn(forms[one], ALL_LETTERS);
      for (int t = 0; t < termsOf(work.degree); t++) work.cell[t] += forms[other].at(t);
      return settle();
    }

    boolean bringProduct(int one, int other) {
      Form left = forms[one];
      Form right = forms[other];
      work.makeNought(left.degree + right.degree);
      for (int both = 0; both <= left.degree; both++) {
        for (int k = 0; k <= both; k++) {
          addTimes(left.has(left.degree - both, both - k, k), both - k, k, right);
        }
      }
      return settle();
    }

    private void addTimes(long number, int j, int k, Form form) {
      if (number == 0) return;
      for (int both = 0; both <= form.degree; both++) {
        for (int c = 0; c <= both; c++) {
          work.cell[termOf(j + both - c, k + c)] += number * form.has(form.degree - both, both - c, c);
        }
      }
    }

    boolean bringLift(int form, int n) {
      if (n > MOST_DEGREE) return false;
      work.takeOn(forms[form], ALL_LETTERS);
      work.raise(ALL_LETTERS, n);
      return settle();
    }

    boolean bringNegative(int form) {
      work.takeOn(forms[form], ALL_LETTERS);
      for (int t = 0; t < termsOf(work.degree); t++) work.cell[t] = -work.cell[t];
      return settle();
    }

    boolean bringOn(int form, int side) {
      work.takeOn(forms[form], side);
      return settle();
    }

    /** The row of work becomes a form more, if there is room for it, its degree and its numbers. */
    private boolean settle() {
      if (isFull() || work.degree > MOST_DEGREE) return false;
      int terms = termsOf(work.degree);
      for (int t = 0; t < terms; t++) {
        if (work.cell[t] < -MOST_NUMBER || work.cell[t] > MOST_NUMBER) return false;
      }
      Form come = forms[size];
      come.makeNought();
      come.degree = work.degree;
      for (int t = 0; t < terms; t++) come.told[t] = (int) work.cell[t];
      size++;
      return true;
    }
  }

  /** The letters that have come. */
  private static final class Letters {
    private static final int END = -1;
    private final int[] row = new int[MOST_LETTERS];
    int size;

    void add(int c) {
      if (size >= MOST_LETTERS) return;
      row[size] = c;
      size++;
    }

    int at(int place) {
      return notBelow(place, size) ? END : row[place];
    }

    boolean hasDigit(int place) {
      return at(place) >= '0' && at(place) <= '9';
    }

    boolean hasSmall(int place) {
      return at(place) >= 'a' && at(place) <= 'z';
    }

    boolean hasText(String text, int place) {
      for (int n = 0; n < text.length(); n++) {
        if (at(place + n) != text.charAt(n)) return false;
      }
      return true;
    }
  }

  /** Reads a form, letter by letter; stops at the first that can't stand there. */
  private static final class FormReader {
    private static final int NOT_YET = -1;
    private static final int MOST_DIGITS = 3;
    private final int[] power = new int[3];
    private Letters letters;
    private int place;
    private int degree;
    private int firstDegree;

    /** The place of the fault; else the form is read into what is given. */
    int read(Letters from, Form into) {
      letters = from;
      place = 0;
      firstDegree = NOT_YET;
      into.makeNought();
      boolean less = letters.at(0) == '-';
      if (less) place++;
      for (int member = 0; member < MOST_LETTERS; member++) {
        if (!readMember(into, less)) return place;
        if (place >= letters.size) break;
        int sign = letters.at(place);
        if (sign != '+' && sign != '-') return place;
        less = sign == '-';
        place++;
      }
      into.degree = firstDegree;
      return NO_FAULT;
    }

    private boolean readMember(Form into, boolean less) {
      int start = place;
      int number = readNumber();
      degree = 0;
      for (int c = 0; c < 3; c++) {
        if (!readPower(c)) return false;
      }
      if (place == start) return false;
      if (firstDegree == NOT_YET) firstDegree = degree;
      if (degree < firstDegree) return false;
      into.told[termOf(power[1], power[2])] += less ? -number : number;
      return true;
    }

    private int readNumber() {
      if (!letters.hasDigit(place)) return 1;
      int number = 0;
      for (int digit = 0; digit < MOST_DIGITS && letters.hasDigit(place); digit++) {
        number = number * 10 + letters.at(place) - '0';
        place++;
      }
      return number;
    }

    /** The power of one letter of three, none being 0; false where the text is at fault. */
    private boolean readPower(int c) {
      power[c] = 0;
      if (letters.at(place) != 'a' + c) return true;
      if (!fits(1)) return false;
      place++;
      power[c] = 1;
      if (letters.at(place) == '^') {
        place++;
        int digit = letters.at(place) - '0';
        if (digit < 1 || digit > MOST_DEGREE || !fits(digit)) return false;
        place++;
        power[c] = digit;
      }
      degree += power[c];
      return true;
    }

    private boolean fits(int more) {
      return degree + more <= (firstDegree == NOT_YET ? MOST_DEGREE : firstDegree);
    }
  }

  /** Reads acts: the words, their places and the numbers behind them. */
  private static final class ActReader {
    final int[] word = new int[MOST_ACTS];
    final int[] place = new int[MOST_ACTS];
    final int[] first = new int[MOST_ACTS];
    final int[] second = new int[MOST_ACTS];
    int size;
    private Letters letters;
    private int now;

    /** The place of the fault; else all acts are read. */
    int read(Letters from) {
      letters = from;
      now = 0;
      size = 0;
      // the most acts, with a ; behind the last, take up all letters that can be: one act lacks then
      while (size < MOST_ACTS) {
        if (!readAct()) return now;
        size++;
        if (now >= letters.size) return NO_FAULT;
        if (letters.at(now) != ';') return now;
        now++;
      }
      return now;
    }

    private boolean readAct() {
      place[size] = now;
      word[size] = wordAt(now);
      if (word[size] == NO_WORD) return false;
      now += textOf(word[size]).length();
      first[size] = readNumber();
      if (first[size] < 0) return false;
      second[size] = word[size] == MINUS ? 0 : readNumber();
      return second[size] >= 0;
    }

    /** The digit behind a blank; below 0 where the text is at fault. */
    private int readNumber() {
      if (letters.at(now) != ' ') return NO_WORD;
      now++;
      if (!letters.hasDigit(now)) return NO_WORD;
      now++;
      return letters.at(now - 1) - '0';
    }

    /** Of a word as long as small letters stand there. */
    private int wordAt(int start) {
      int end = start;
      while (end < letters.size && letters.hasSmall(end)) end++;
      for (int w = 0; w < WORDS; w++) {
        String text = textOf(w);
        if (text.length() == end - start && letters.hasText(text, start)) return w;
      }
      return NO_WORD;
    }

    private static String textOf(int word) {
      switch (word) {
        case SUM: return "sum";
        case TIMES: return "times";
        case LIFT: return "lift";
        case MINUS: return "minus";
        default: return "side";
      }
    }
  }

  /** Spells a form; keeps no text, but how long it is and the one byte that is asked for. */
  private static final class Speller {
    int length;
    int found;
    private int wanted;

    void spell(Form form, int i) {
      length = 0;
      found = NONE;
      wanted = i;
      for (int both = 0; both <= form.degree; both++) {
        for (int k = 0; k <= both; k++) {
          spellTerm(form, form.degree - both, both - k, k);
        }
      }
      if (length == 0) add('0');
    }

    private void spellTerm(Form form, int i, int j, int k) {
      int number = form.has(i, j, k);
      if (number == 0) return;
      if (number < 0) {
        add('-');
      } else if (length > 0) {
        add('+');
      }
      int bare = Math.abs(number);
      if (bare != 1 || form.degree == 0) spellNumber(bare);
      spellPower('a', i);
      spellPower('b', j);
      spellPower('c', k);
    }

    private void spellNumber(int number) {
      int unit = 1;
      for (int digit = 0; digit < 8 && number / unit >= 10; digit++) unit *= 10;
      for (; unit > 0; unit /= 10) add('0' + number / unit % 10);
    }

    private void spellPower(int c, int power) {
      if (power > 0) add(c);
      if (power > 1) {
        add('^');
        add('0' + power);
      }
    }

    private void add(int c) {
      if (length == wanted) found = c;
      length++;
    }
  }

  /**
   * Finds by which fractions a form is made of a set: a row a term, a column a form, the last one
   * that which is made. With numbers up to 99 three steps by whole numbers stay within a long.
   */
  private static final class Maker {
    private static final int LOOSE = -1;
    private final long[][] cell = new long[MOST_TERMS][MOST_SET + 1];
    private final int[] leads = new int[MOST_SET];
    private int rows;
    private int columns;

    /** Whether the form is made of the set, which has been looked at. */
    boolean makes(Shelf shelf, int form, int set) {
      rows = termsOf(shelf.forms[form].degree);
      columns = 0;
      for (int f = 0; f < shelf.size; f++) {
        if ((set >> f & 1) == 0 || columns >= MOST_SET) continue;
        fill(columns, shelf.forms[f]);
        columns++;
      }
      fill(columns, shelf.forms[form]);
      int led = 0;
      for (int column = 0; column < columns; column++) {
        leads[column] = lead(led, column);
        if (leads[column] != LOOSE) led++;
      }
      return leader(led, columns) == LOOSE;
    }

    private void fill(int column, Form form) {
      for (int t = 0; t < rows; t++) cell[t][column] = form.at(t);
    }

    /** The row that leads a column, brought to its place, the column being 0 in all others. */
    private int lead(int row, int column) {
      int found = leader(row, column);
      if (found == LOOSE) return LOOSE;
      long[] up = cell[found];
      cell[found] = cell[row];
      cell[row] = up;
      for (int t = 0; t < rows; t++) {
        if (t != row && cell[t][column] != 0) takeAway(t, row, column);
      }
      return row;
    }

    private int leader(int from, int column) {
      for (int t = from; t < rows; t++) {
        if (cell[t][column] != 0) return t;
      }
      return LOOSE;
    }

    private void takeAway(int t, int row, int column) {
      long mine = cell[t][column];
      long its = cell[row][column];
      for (int c = 0; c <= columns; c++) cell[t][c] = cell[t][c] * its - cell[row][c] * mine;
    }

    /** The fraction of a form of the set; of others 0. */
    long fraction(int set, int g, int part) {
      int column = Integer.bitCount(set & ((1 << g) - 1));
      if ((set >> g & 1) == 0 || column >= columns || leads[column] == LOOSE) {
        return partOf(0, 1, part);
      }
      long[] row = cell[leads[column]];
      return partOf(row[columns], row[column], part);
    }
  }

  /** What can be undone: the latest changes and turns, in a ring. */
  private static final class UndoLog {
    int size;
    private final int[] form = new int[MOST_UNDONE];
    private final int[] term = new int[MOST_UNDONE];
    private final int[] first = new int[MOST_UNDONE];
    private final int[] second = new int[MOST_UNDONE];
    private int next;

    /** A told number at a term as it was; or, of a turn, kind and figure. */
    void add(int ofForm, int ofTerm, int was, int wasToo) {
      form[next] = ofForm;
      term[next] = ofTerm;
      first[next] = was;
      second[next] = wasToo;
      next = (next + 1) % MOST_UNDONE;
      size = Math.min(size + 1, MOST_UNDONE);
    }

    void takeBack(Shelf shelf) {
      next = (next + MOST_UNDONE - 1) % MOST_UNDONE;
      size--;
      if (shelf.lacks(form[next])) return;
      Form changed = shelf.forms[form[next]];
      if (term[next] == A_TURN) {
        changed.kind = first[next];
        changed.figure = second[next];
      } else {
        changed.told[term[next]] = first[next];
      }
    }
  }

  /** The lists, and the polynomials that they tell. */
  private static final class Lists {
    final int[][] row = new int[MOST_LISTS][MOST_LIST];
    final int[] size = {-1, -1, -1};

    boolean misses(int list) {
      return size[list] < 0;
    }

    void renew(int list, int n) {
      size[list] = n;
      for (int i = 0; i < n; i++) row[list][i] = 0;
    }

    boolean isPolynomial(int list) {
      if (size[list] > MOST_POLYNOMIAL) return false;
      for (int i = 0; i < size[list]; i++) {
        if (row[list][i] < -MOST_NUMBER || row[list][i] > MOST_NUMBER) return false;
      }
      return true;
    }

    /** x^k is x^k times (x + (1 less x))^(d less k), which tells its walls. */
    long wall(int list, int d, int i) {
      long all = 0;
      for (int k = 0; k < size[list] && k <= i; k++) all += row[list][k] * ways(d - k, i - k);
      return all;
    }

    boolean wallsClear(int list, int d, int sort) {
      for (int i = 0; i <= d; i++) {
        if (fails(wall(list, d, i), sort)) return false;
      }
      return true;
    }

    /** In how many ways k of n are taken. */
    private static long ways(int n, int k) {
      long all = 1;
      for (int step = 1; step <= k; step++) all = all * (n - k + step) / step;
      return all;
    }
  }
}
