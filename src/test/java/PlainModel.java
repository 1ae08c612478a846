import java.math.BigInteger;
import java.util.ArrayDeque;
import java.util.ArrayList;
import java.util.Arrays;
import java.util.List;
import java.util.Map;
import java.util.TreeMap;
import java.util.regex.Matcher;
import java.util.regex.Pattern;

/**
 * The document once more, in another and slower way: forms are maps from powers to numbers, texts
 * are judged by patterns, fractions are found by trial of minors. Random runs compare it with the class.
 */
final class PlainModel {
  /** Told numbers by powers; the map's order is the order of terms. */
  record Shape(int kind, int figure, int degree, Map<String, Integer> told) {
    Shape copy() {
      return new Shape(kind, figure, degree, new TreeMap<>(told));
    }
  }

  private static final String[] WORDS = {"sum", "times", "lift", "minus", "side"};
  private static final Pattern MEMBERS = Pattern.compile(
      "-?(?:(?:[0-9]{1,3}(?![0-9])|(?=[abc]))(?:a(?:\\^[1-6])?)?(?:b(?:\\^[1-6])?)?(?:c(?:\\^[1-6])?)?)"
          + "(?:[+-](?:[0-9]{1,3}(?![0-9])|(?=[abc]))(?:a(?:\\^[1-6])?)?(?:b(?:\\^[1-6])?)?(?:c(?:\\^[1-6])?)?)*");
  private static final String ACT = "(?:(?:sum|times|lift|side) [0-9] [0-9]|minus [0-9])";
  private static final Pattern ACTS = Pattern.compile(ACT + "(?:;" + ACT + ")*");

  private List<Shape> shapes = new ArrayList<>();
  private List<Shape> image = null;
  private final ArrayDeque<List<Shape>> before = new ArrayDeque<>();
  private final int[][] lists = new int[3][];
  private final int[] refused = new int[20];
  private String letters = "";

  // ---- the answers

  long ask(String call, int... p) {
    switch (call) {
      case "letter": return letter(p[0]);
      case "form": return form();
      case "acts": return acts();
      case "drop": return drop();
      case "change": return change(p[0], p[1], p[2]);
      case "turn": return turn(p[0], p[1], p[2]);
      case "of": return of(p[0], p[1]);
      case "taken": return taken(p[0], p[1]);
      case "coefficient": return coefficient(p[0], p[1]);
      case "value": return value(p[0], p[1], p[2], p[3]);
      case "lifted": return lifted(p[0], p[1], p[2], p[3]);
      case "fault": return fault(p[0], p[1], p[2], p[3]);
      case "least": return least(p[0], p[1], p[2]);
      case "failing": return failing(p[0], p[1], p[2], p[3]);
      case "lowest": return lowest(p[0], p[1], p[2], p[3]);
      case "share": return share(p[0], p[1], p[2], p[3]);
      case "proof": return proof(p[0], p[1]);
      case "walls": return walls(p[0], p[1], p[2]);
      case "wallsLeast": return wallsLeast(p[0], p[1]);
      case "made": return made(p[0], p[1], p[2], p[3]);
      default: return askMore(call, p);
    }
  }

  private long askMore(String call, int... p) {
    switch (call) {
      case "sum": return sum(p[0], p[1]);
      case "product": return product(p[0], p[1]);
      case "lift": return lift(p[0], p[1]);
      case "negative": return negative(p[0]);
      case "on": return on(p[0], p[1]);
      case "spelled": return spelled(p[0], p[1]);
      case "lots": return lots(p[0], p[1], p[2], p[3]);
      case "list": return list(p[0], p[1]);
      case "put": return put(p[0], p[1], p[2]);
      case "look": return look(p[0], p[1]);
      case "lays": return lays(p[0], p[1], p[2]);
      case "judge": return judge(p[0], p[1]);
      case "undo": return undo();
      case "image": return image();
      case "back": return back();
      case "count": return count(p[0]);
      default: throw new IllegalArgumentException(call);
    }
  }

  // ---- refusals

  private int no(int number) {
    refused[-number]++;
    return number;
  }

  private long far(int number) {
    refused[-number]++;
    return 4000000000000000000L - number;
  }

  private int farInt(int number) {
    refused[-number]++;
    return 1000000000 - number;
  }

  private boolean isForm(int form) {
    return 0 <= form && form < shapes.size();
  }

  private static boolean isSide(int side) {
    return 1 <= side && side <= 7;
  }

  private static boolean isBit(int number) {
    return number == 0 || number == 1;
  }

  // ---- terms

  /** All powers of a degree, in the order of terms; each a text of three signs from A (0) on. */
  private static List<String> powers(int degree, int side) {
    List<String> all = new ArrayList<>();
    for (int i = degree; i >= 0; i--) {
      for (int j = degree; j >= 0; j--) {
        for (int k = 0; k <= degree; k++) {
          if (i + j + k != degree) continue;
          if (i > 0 && (side & 1) == 0 || j > 0 && (side & 2) == 0 || k > 0 && (side & 4) == 0) continue;
          all.add(key(i, j, k));
        }
      }
    }
    return all;
  }

  private static String key(int i, int j, int k) {
    return "" + (char) ('A' + i) + (char) ('A' + j) + (char) ('A' + k);
  }

  private static int power(String key, int c) {
    return key.charAt(c) - 'A';
  }

  private static int coefficient(Shape shape, int kind, String key) {
    int i = power(key, 0);
    int j = power(key, 1);
    int k = power(key, 2);
    if (kind == 1) return coefficient(shape, 0, key(j, k, i));
    if (kind == 2) return i % 2 == 1 ? 0 : coefficient(shape, 0, key);
    if (kind == 3) return coefficient(shape, 0, key) - shape.figure;
    if (kind == 4) return coefficient(shape, 1, key(j, k, i));
    if (kind == 5) return k > 0 ? 0 : coefficient(shape, 2, key);
    return shape.told.getOrDefault(key, 0);
  }

  private static Map<String, BigInteger> coefficients(Shape shape, int side) {
    Map<String, BigInteger> all = new TreeMap<>();
    for (String key : powers(shape.degree, side)) {
      all.put(key, BigInteger.valueOf(coefficient(shape, shape.kind, key)));
    }
    return all;
  }

  private static Map<String, BigInteger> times(Map<String, BigInteger> one, Map<String, BigInteger> other) {
    Map<String, BigInteger> all = new TreeMap<>();
    for (var x : one.entrySet()) {
      for (var y : other.entrySet()) {
        String key = key(power(x.getKey(), 0) + power(y.getKey(), 0), power(x.getKey(), 1) + power(y.getKey(), 1),
            power(x.getKey(), 2) + power(y.getKey(), 2));
        all.merge(key, x.getValue().multiply(y.getValue()), BigInteger::add);
      }
    }
    return all;
  }

  private static Map<String, BigInteger> raised(Map<String, BigInteger> start, int side, int n) {
    Map<String, BigInteger> all = start;
    Map<String, BigInteger> letters = new TreeMap<>();
    for (String key : powers(1, side)) letters.put(key, BigInteger.ONE);
    for (int step = 0; step < n; step++) all = times(all, letters);
    return all;
  }

  private List<BigInteger> liftedRow(int form, int side, int n) {
    Shape shape = shapes.get(form);
    Map<String, BigInteger> all = raised(coefficients(shape, side), side, n);
    List<BigInteger> row = new ArrayList<>();
    for (String key : powers(shape.degree + n, side)) row.add(all.getOrDefault(key, BigInteger.ZERO));
    return row;
  }

  private BigInteger valueAt(int form, int x, int y, int z) {
    BigInteger all = BigInteger.ZERO;
    for (var one : coefficients(shapes.get(form), 7).entrySet()) {
      all = all.add(one.getValue().multiply(BigInteger.valueOf(x).pow(power(one.getKey(), 0)))
          .multiply(BigInteger.valueOf(y).pow(power(one.getKey(), 1)))
          .multiply(BigInteger.valueOf(z).pow(power(one.getKey(), 2))));
    }
    return all;
  }

  private List<BigInteger> valuesOf(int form, int side, int n) {
    List<BigInteger> row = new ArrayList<>();
    for (String key : powers(n, side)) row.add(valueAt(form, power(key, 0), power(key, 1), power(key, 2)));
    return row;
  }

  private static int firstFailing(List<BigInteger> row, int sort) {
    for (int n = 0; n < row.size(); n++) {
      if (row.get(n).signum() < sort) return n;
    }
    return -9;
  }

  // ---- promises 1 to 11

  private int letter(int c) {
    if (c < 0) return no(-4);
    if (c > 255 || letters.length() == 72) return no(-6);
    letters += (char) c;
    return letters.length();
  }

  /** Whether a text is, or can go on to be, one that a pattern tells. */
  private static boolean canGoOn(Pattern pattern, String text) {
    Matcher matcher = pattern.matcher(text);
    return matcher.matches() || matcher.hitEnd();
  }

  private static int degreeOf(String member) {
    int degree = 0;
    Matcher matcher = Pattern.compile("[abc](?:\\^([1-6]))?").matcher(member);
    while (matcher.find()) degree += matcher.group(1) == null ? 1 : Integer.parseInt(matcher.group(1));
    return degree;
  }

  private static String[] membersOf(String text) {
    return (text.startsWith("-") ? text.substring(1) : text).split("[+-]", -1);
  }

  /** Whether all degrees of a text that goes on so far are as they can be. */
  private static boolean degreesStand(String text, boolean ended) {
    String[] members = membersOf(text);
    int first = degreeOf(members[0]);
    if (first > 6) return false;
    for (int m = 1; m < members.length; m++) {
      boolean isOpen = m == members.length - 1 && !ended;
      int degree = degreeOf(members[m]);
      if (degree > first || !isOpen && degree < first) return false;
    }
    return true;
  }

  private static int placeOfFault(String text) {
    for (int n = 1; n <= text.length(); n++) {
      String so = text.substring(0, n);
      if (!canGoOn(MEMBERS, so) || !degreesStand(so, false)) return n - 1;
    }
    if (!MEMBERS.matcher(text).matches() || !degreesStand(text, true)) return text.length();
    return -1;
  }

  private int form() {
    if (shapes.size() == 6) return no(-6);
    String text = letters;
    letters = "";
    int place = placeOfFault(text);
    if (place >= 0) return -1000 - place;
    Shape shape = new Shape(0, 0, degreeOf(membersOf(text)[0]), new TreeMap<>());
    Matcher matcher = Pattern.compile("([+-]?)([0-9]*)((?:[abc](?:\\^[1-6])?)*)").matcher(text);
    while (matcher.find()) {
      if (matcher.group().isEmpty()) continue;
      int number = matcher.group(2).isEmpty() ? 1 : Integer.parseInt(matcher.group(2));
      int[] power = new int[3];
      Matcher each = Pattern.compile("([abc])(?:\\^([1-6]))?").matcher(matcher.group(3));
      while (each.find()) {
        power[each.group(1).charAt(0) - 'a'] = each.group(2) == null ? 1 : Integer.parseInt(each.group(2));
      }
      shape.told.merge(key(power[0], power[1], power[2]), matcher.group(1).equals("-") ? -number : number,
          Integer::sum);
    }
    return come(shape);
  }

  private int come(Shape shape) {
    shapes.add(shape);
    before.clear();
    return shapes.size() - 1;
  }

  private static int placeOfActFault(String text) {
    int at = 0;
    for (int act = 0; act < 20; act++) {
      Matcher word = Pattern.compile("[a-z]*").matcher(text.substring(at));
      word.lookingAt();
      if (!Arrays.asList(WORDS).contains(word.group())) return at;
      int end = text.indexOf(';', at);
      String one = text.substring(at, end < 0 ? text.length() : end);
      for (int n = 1; n <= one.length(); n++) {
        if (!canGoOn(Pattern.compile(ACT), one.substring(0, n))) return at + n - 1;
      }
      if (!one.matches(ACT)) return at + one.length();
      if (end < 0) return -1;
      at = end + 1;
    }
    throw new IllegalStateException();
  }

  private int acts() {
    String text = letters;
    letters = "";
    int place = placeOfActFault(text);
    if ((place < 0) != ACTS.matcher(text).matches()) throw new IllegalStateException(text);
    if (place >= 0) return -1000 - place;
    List<Shape> were = new ArrayList<>(shapes);
    int at = 0;
    for (String act : text.split(";")) {
      Shape made = actOf(act.split(" "));
      if (made == null || shapes.size() == 6) {
        shapes = were;
        return -2000 - at;
      }
      shapes.add(made);
      at += act.length() + 1;
    }
    before.clear();
    return text.split(";").length;
  }

  private Shape actOf(String[] act) {
    int one = Integer.parseInt(act[1]);
    int other = act.length > 2 ? Integer.parseInt(act[2]) : 0;
    if (!isForm(one)) return null;
    if (act[0].equals("sum")) return isForm(other) ? sumOf(one, other) : null;
    if (act[0].equals("times")) return isForm(other) ? productOf(one, other) : null;
    if (act[0].equals("lift")) return liftOf(one, other);
    if (act[0].equals("minus")) return negativeOf(one);
    return isSide(other) ? onOf(one, other) : null;
  }

  private int drop() {
    if (shapes.isEmpty()) return no(-3);
    shapes.remove(shapes.size() - 1);
    before.clear();
    return shapes.size();
  }

  private List<Shape> copies() {
    List<Shape> all = new ArrayList<>();
    for (Shape shape : shapes) all.add(shape.copy());
    return all;
  }

  private void remember() {
    before.addLast(copies());
    if (before.size() > 16) before.removeFirst();
  }

  private boolean isTerm(int form, int term) {
    return 0 <= term && term < powers(shapes.get(form).degree, 7).size();
  }

  private int change(int form, int term, int v) {
    if (!isForm(form) || !isTerm(form, term)) return farInt(-1);
    if (v < -1000000) return farInt(-4);
    if (v > 1000000) return farInt(-6);
    remember();
    String key = powers(shapes.get(form).degree, 7).get(term);
    Integer was = shapes.get(form).told.put(key, v);
    return was == null ? 0 : was;
  }

  private int turn(int form, int kind, int figure) {
    if (!isForm(form)) return no(-1);
    if (kind < 0 || kind > 5) return no(-2);
    if (figure < 0) return no(-4);
    if (figure > 9) return no(-6);
    remember();
    Shape was = shapes.get(form);
    shapes.set(form, new Shape(kind, figure, was.degree, was.told));
    return was.kind * 10 + was.figure;
  }

  private int of(int form, int what) {
    if (!isForm(form)) return no(-1);
    if (what < 0 || what > 5) return no(-2);
    Shape shape = shapes.get(form);
    var all = coefficients(shape, 7).values();
    if (what == 0) return shape.kind;
    if (what == 1) return shape.figure;
    if (what == 2) return shape.degree;
    if (what == 3) return all.size();
    return (int) all.stream().filter(n -> n.signum() == (what == 4 ? 0 : -1)).count();
  }

  private int taken(int form, int kind) {
    if (!isForm(form)) return no(-1);
    if (kind < 0 || kind > 5) return no(-2);
    int own = shapes.get(form).kind;
    boolean under = own == kind || kind == 0 || kind == 1 && own == 4 || kind == 2 && own == 5;
    return under ? own : -16;
  }

  private int coefficient(int form, int term) {
    if (!isForm(form) || !isTerm(form, term)) return farInt(-1);
    return liftedRow(form, 7, 0).get(term).intValueExact();
  }

  private long value(int form, int x, int y, int z) {
    if (!isForm(form)) return far(-1);
    if (Math.min(x, Math.min(y, z)) < 0) return far(-4);
    if (Math.max(x, Math.max(y, z)) > 12) return far(-6);
    return valueAt(form, x, y, z).longValueExact();
  }

  // ---- promises 12 to 18

  private long lifted(int form, int side, int n, int t) {
    if (!isForm(form) || !isSide(side)) return far(-1);
    if (n < 0) return far(-4);
    if (n > 12) return far(-6);
    List<BigInteger> row = liftedRow(form, side, n);
    if (t < 0 || t >= row.size()) return far(-1);
    return row.get(t).longValueExact();
  }

  private int fault(int form, int side, int n, int sort) {
    if (!isForm(form) || !isSide(side)) return no(-1);
    if (!isBit(sort)) return no(-2);
    if (n < 0) return no(-4);
    if (n > 12) return no(-6);
    return firstFailing(liftedRow(form, side, n), sort);
  }

  private int leastOf(int form, int side, int sort) {
    for (int n = 0; n <= 12; n++) {
      if (firstFailing(liftedRow(form, side, n), sort) < 0) return n;
    }
    return -9;
  }

  private int least(int form, int side, int sort) {
    if (!isForm(form) || !isSide(side)) return no(-1);
    if (!isBit(sort)) return no(-2);
    return leastOf(form, side, sort);
  }

  private int failing(int form, int side, int sort, int what) {
    if (!isForm(form) || !isSide(side)) return no(-1);
    if (!isBit(sort) || !isBit(what)) return no(-2);
    return failingOf(form, side, sort, what);
  }

  private int failingOf(int form, int side, int sort, int what) {
    for (int n = 1; n <= 12; n++) {
      int point = firstFailing(valuesOf(form, side, n), sort);
      if (point >= 0) return what == 0 ? n : point;
    }
    return -9;
  }

  private long lowest(int form, int side, int n, int what) {
    if (!isForm(form) || !isSide(side)) return far(-1);
    if (n < 1) return far(-4);
    if (n > 12) return far(-6);
    if (!isBit(what)) return far(-2);
    List<BigInteger> row = valuesOf(form, side, n);
    BigInteger least = row.stream().min(BigInteger::compareTo).get();
    return what == 0 ? least.longValueExact() : row.indexOf(least);
  }

  private long share(int form, int side, int n, int part) {
    if (!isForm(form) || !isSide(side)) return far(-1);
    if (n < 1) return far(-4);
    if (n > 12) return far(-6);
    if (!isBit(part)) return far(-2);
    List<BigInteger> row = valuesOf(form, side, n);
    long above = row.stream().filter(v -> v.signum() > 0).count();
    return fraction(BigInteger.valueOf(above), BigInteger.valueOf(row.size()), part);
  }

  private static long fraction(BigInteger above, BigInteger below, int part) {
    BigInteger common = above.gcd(below);
    if (below.signum() < 0) common = common.negate();
    return (part == 0 ? above : below).divide(common).longValueExact();
  }

  private int proof(int form, int side) {
    if (!isForm(form) || !isSide(side)) return no(-1);
    if (leastOf(form, side, 1) >= 0) return 0;
    if (leastOf(form, side, 0) >= 0) return 1;
    return failingOf(form, side, 0, 0) >= 0 ? 2 : 3;
  }

  // ---- promises 19 to 28

  /** The walls, found from the first on: p less what is known, divided by x to a power, at 0. */
  private static BigInteger[] wallsOf(int[] numbers, int d) {
    BigInteger[] rest = new BigInteger[d + 1];
    for (int i = 0; i <= d; i++) rest[i] = BigInteger.valueOf(i < numbers.length ? numbers[i] : 0);
    BigInteger[] walls = new BigInteger[d + 1];
    for (int i = 0; i <= d; i++) {
      walls[i] = rest[i];
      BigInteger way = BigInteger.ONE;
      for (int m = 0; m <= d - i; m++) {
        rest[i + m] = rest[i + m].subtract(walls[i].multiply(way));
        way = way.multiply(BigInteger.valueOf(-(d - i - m))).divide(BigInteger.valueOf(m + 1));
      }
    }
    return walls;
  }

  private static boolean isPolynomial(int[] numbers) {
    return numbers.length <= 9 && Arrays.stream(numbers).allMatch(n -> -1000000 <= n && n <= 1000000);
  }

  private long walls(int list, int d, int i) {
    if (list < 0 || list > 2) return far(-1);
    if (d < 0 || i < 0) return far(-4);
    if (d > 16 || i > d) return far(-6);
    if (lists[list] == null) return far(-11);
    if (!isPolynomial(lists[list]) || d < lists[list].length - 1) return far(-3);
    return wallsOf(lists[list], d)[i].longValueExact();
  }

  private int wallsLeast(int list, int sort) {
    if (list < 0 || list > 2) return no(-1);
    if (!isBit(sort)) return no(-2);
    if (lists[list] == null) return -11;
    if (!isPolynomial(lists[list])) return no(-3);
    for (int d = 0; d <= 16; d++) {
      if (d < lists[list].length - 1) continue;
      if (firstFailing(Arrays.asList(wallsOf(lists[list], d)), sort) < 0) return d;
    }
    return -9;
  }

  private long made(int form, int set, int g, int part) {
    if (!isForm(form) || set < 1 || set >= 1 << shapes.size() || !isForm(g)) return far(-1);
    if (!isBit(part)) return far(-2);
    if (Integer.bitCount(set) > 3 || (set & 1 << form) != 0) return far(-3);
    List<Integer> tight = new ArrayList<>();
    boolean wrong = !isSmall(form);
    for (int f = 0; f < shapes.size(); f++) {
      if ((set & 1 << f) == 0) continue;
      wrong |= !isSmall(f) || shapes.get(f).degree != shapes.get(form).degree;
    }
    if (wrong) return far(-3);
    for (int f = 0; f < shapes.size(); f++) {
      if ((set & 1 << f) != 0 && sharesOf(f, tight) == null) tight.add(f);
    }
    BigInteger[] shares = sharesOf(form, tight);
    if (shares == null) return far(-3);
    int where = tight.indexOf(g);
    if (where < 0 || shares[where].signum() == 0) return part;
    return fraction(shares[where], shares[tight.size()], part);
  }

  private boolean isSmall(int form) {
    return coefficients(shapes.get(form), 7).values().stream().allMatch(n -> n.abs().intValueExact() <= 99);
  }

  /** By Cramer: what is above the line for each of these forms, and what is below it for all; null: none. */
  private BigInteger[] sharesOf(int form, List<Integer> others) {
    int many = others.size();
    List<List<BigInteger>> columns = new ArrayList<>();
    for (int other : others) columns.add(liftedRow(other, 7, 0));
    List<BigInteger> sought = liftedRow(form, 7, 0);
    int rows = sought.size();
    for (int pick = 0; pick < Math.pow(rows, many); pick++) {
      int[] at = new int[many];
      for (int n = 0, rest = pick; n < many; n++, rest /= rows) at[n] = rest % rows;
      boolean rises = true;
      for (int n = 1; n < many; n++) rises &= at[n - 1] < at[n];
      BigInteger below = rises ? minor(columns, at) : BigInteger.ZERO;
      if (below.signum() == 0) continue;
      BigInteger[] shares = new BigInteger[many + 1];
      shares[many] = below;
      for (int n = 0; n < many; n++) {
        List<List<BigInteger>> put = new ArrayList<>(columns);
        put.set(n, sought);
        shares[n] = minor(put, at);
      }
      for (int t = 0; t < rows; t++) {
        BigInteger all = BigInteger.ZERO;
        for (int n = 0; n < many; n++) all = all.add(shares[n].multiply(columns.get(n).get(t)));
        if (!all.equals(below.multiply(sought.get(t)))) return null;
      }
      return shares;
    }
    throw new IllegalStateException();
  }

  private static BigInteger minor(List<List<BigInteger>> columns, int[] at) {
    if (at.length == 0) return BigInteger.ONE;
    BigInteger all = BigInteger.ZERO;
    for (int n = 0; n < at.length; n++) {
      int[] less = new int[at.length - 1];
      for (int m = 0; m < less.length; m++) less[m] = at[m < n ? m : m + 1];
      BigInteger one = columns.get(0).get(at[n]).multiply(minor(columns.subList(1, columns.size()), less));
      all = n % 2 == 0 ? all.add(one) : all.subtract(one);
    }
    return all;
  }

  /** A new form of these coefficients; null if it can't come for its degree or one of them. */
  private static Shape shapeOf(int degree, Map<String, BigInteger> numbers) {
    if (degree > 6) return null;
    Shape shape = new Shape(0, 0, degree, new TreeMap<>());
    for (var one : numbers.entrySet()) {
      if (one.getValue().abs().compareTo(BigInteger.valueOf(1000000)) > 0) return null;
      shape.told.put(one.getKey(), one.getValue().intValueExact());
    }
    return shape;
  }

  private Shape sumOf(int one, int other) {
    if (shapes.get(one).degree != shapes.get(other).degree) return null;
    Map<String, BigInteger> all = coefficients(shapes.get(one), 7);
    coefficients(shapes.get(other), 7).forEach((key, n) -> all.merge(key, n, BigInteger::add));
    return shapeOf(shapes.get(one).degree, all);
  }

  private Shape productOf(int one, int other) {
    return shapeOf(shapes.get(one).degree + shapes.get(other).degree,
        times(coefficients(shapes.get(one), 7), coefficients(shapes.get(other), 7)));
  }

  private Shape liftOf(int form, int n) {
    return n > 6 ? null : shapeOf(shapes.get(form).degree + n, raised(coefficients(shapes.get(form), 7), 7, n));
  }

  private Shape negativeOf(int form) {
    Map<String, BigInteger> all = coefficients(shapes.get(form), 7);
    all.replaceAll((key, n) -> n.negate());
    return shapeOf(shapes.get(form).degree, all);
  }

  private Shape onOf(int form, int side) {
    return shapeOf(shapes.get(form).degree, coefficients(shapes.get(form), side));
  }

  private int comes(Shape shape) {
    return shape == null || shapes.size() == 6 ? no(-6) : come(shape);
  }

  private int sum(int one, int other) {
    if (!isForm(one) || !isForm(other)) return no(-1);
    if (shapes.get(one).degree != shapes.get(other).degree) return no(-3);
    return comes(sumOf(one, other));
  }

  private int product(int one, int other) {
    if (!isForm(one) || !isForm(other)) return no(-1);
    return comes(productOf(one, other));
  }

  private int lift(int form, int n) {
    if (!isForm(form)) return no(-1);
    if (n < 0) return no(-4);
    return comes(liftOf(form, n));
  }

  private int negative(int form) {
    if (!isForm(form)) return no(-1);
    return comes(negativeOf(form));
  }

  private int on(int form, int side) {
    if (!isForm(form) || !isSide(side)) return no(-1);
    return comes(onOf(form, side));
  }

  private String spelling(int form) {
    Shape shape = shapes.get(form);
    StringBuilder text = new StringBuilder();
    for (String key : powers(shape.degree, 7)) {
      int number = coefficient(shape, shape.kind, key);
      if (number == 0) continue;
      text.append(number < 0 ? "-" : "+").append(Math.abs(number)).append("*");
      for (int c = 0; c < 3; c++) text.append((char) ('a' + c)).append('^').append(power(key, c));
    }
    String rough = text.toString().replaceAll("[abc]\\^0", "").replaceAll("\\^1", "");
    rough = rough.replaceAll("([+-])1\\*([abc])", "$1$2").replace("*", "");
    return rough.isEmpty() ? "0" : rough.startsWith("+") ? rough.substring(1) : rough;
  }

  private int spelled(int form, int i) {
    if (!isForm(form)) return no(-1);
    if (i < -1) return no(-4);
    String text = spelling(form);
    return i == -1 ? text.length() : i < text.length() ? text.charAt(i) : -9;
  }

  private int lots(int form, int n, int z, int what) {
    if (!isForm(form)) return no(-1);
    if (n < 1) return no(-4);
    if (n > 50) return no(-6);
    if (!isBit(what)) return no(-2);
    int often = 0;
    long seed = z;
    for (int lot = 0; lot < n; lot++) {
      int[] draw = new int[3];
      for (int c = 0; c < 3; c++) {
        seed = Math.floorMod(seed * 1664525 + 1013904223, 1L << 32);
        draw[c] = (int) (seed % (1L << 31) / 256 % 10);
      }
      if (valueAt(form, draw[0], draw[1], draw[2]).signum() == what - 1) often++;
    }
    return often;
  }

  // ---- promises 29 to 37

  private int list(int list, int n) {
    if (list < 0 || list > 2) return no(-1);
    if (n > 40) return no(-6);
    if (n < 0) return -14;
    lists[list] = new int[n];
    return 1;
  }

  private int put(int list, int i, int v) {
    if (list < 0 || list > 2) return no(-1);
    if (lists[list] == null) return -11;
    if (i < 0 || i >= lists[list].length) return -13;
    lists[list][i] = v;
    return 1;
  }

  private long look(int list, int i) {
    if (list < 0 || list > 2) return far(-1);
    if (lists[list] == null) return far(-11);
    if (i < 0 || i >= lists[list].length) return far(-13);
    return lists[list][i];
  }

  private int lays(int list, int i, int form) {
    if (list < 0 || list > 2 || !isForm(form)) return no(-1);
    if (lists[list] == null) return -11;
    List<BigInteger> row = liftedRow(form, 7, 0);
    if (i < 0 || (long) i + row.size() > lists[list].length) return -13;
    for (int t = 0; t < row.size(); t++) lists[list][i + t] = row.get(t).intValueExact();
    return row.size();
  }

  private int judge(int list, int form) {
    if (list < 0 || list > 2 || !isForm(form)) return no(-1);
    if (lists[list] == null) return -11;
    List<BigInteger> row = liftedRow(form, 7, 0);
    for (int i = 0; i < lists[list].length; i++) {
      if (i >= row.size() || !row.get(i).equals(BigInteger.valueOf(lists[list][i]))) return i;
    }
    return -9;
  }

  private int undo() {
    if (before.isEmpty()) return no(-3);
    shapes = before.removeLast();
    return before.size();
  }

  private int image() {
    image = copies();
    return shapes.size();
  }

  private int back() {
    if (image == null) return no(-3);
    shapes = image;
    image = copies();
    before.clear();
    return shapes.size();
  }

  private int count(int what) {
    if (what == 0) return shapes.size();
    if (what == 1) return letters.length();
    if (what == 2) return shapes.stream().mapToInt(s -> powers(s.degree, 7).size()).sum();
    if (what == 3) return before.size();
    if (what >= 11 && what <= 16) return refused[what - 10];
    if (what != 4) return -9;
    int bits = 0;
    for (int f = 0; f < shapes.size(); f++) {
      if (coefficients(shapes.get(f), 7).values().stream().allMatch(n -> n.signum() >= 0)) bits |= 1 << f;
    }
    return bits;
  }
}
