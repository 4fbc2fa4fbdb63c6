import java.math.BigInteger;
import java.util.ArrayList;
import java.util.HashMap;
import java.util.HashSet;
import java.util.List;
import java.util.Map;
import java.util.Random;
import java.util.Set;

/** Promises 23 to 27: classes, form, classOf, order, first. */
public final class FormTest {
  private static final Due due = new Due();
  /** Class numbers of the fields of discriminant below 0, from -3 on, as the tables have them. */
  private static final int[][] BELOW = {{-3, 1}, {-4, 1}, {-7, 1}, {-8, 1}, {-11, 1}, {-15, 2}, {-19, 1}, {-20, 2},
      {-23, 3}, {-24, 2}, {-31, 3}, {-35, 2}, {-39, 4}, {-40, 2}, {-43, 1}, {-47, 5}, {-51, 2}, {-52, 2}, {-55, 4},
      {-56, 4}, {-59, 3}, {-67, 1}, {-68, 4}, {-71, 7}, {-84, 4}, {-95, 8}, {-163, 1}, {-191, 13}, {-199, 9}};
  /** Narrow class numbers of fields of discriminant above 0. */
  private static final int[][] ABOVE = {{5, 1}, {8, 1}, {12, 2}, {13, 1}, {17, 1}, {21, 2}, {24, 2}, {28, 2}, {29, 1},
      {33, 2}, {37, 1}, {40, 2}, {41, 1}, {44, 2}, {53, 1}, {56, 2}, {57, 2}, {60, 4}, {65, 2}, {85, 2}, {136, 4},
      {145, 4}, {229, 3}, {257, 3}, {316, 6}, {401, 5}};

  public static void main(String[] args) {
    known();
    refusals();
    lists();
    firsts();
    Random random = new Random(11);
    for (int i = 0; i < 500; i++) {
      ideals(random);
    }
    due.end();
  }

  /** The field of a fundamental discriminant. */
  private static FieldHouse house(int disc) {
    FieldHouse x = new FieldHouse();
    int odd = Math.floorMod(disc, 4);
    due.is("field of " + disc, odd == 1 ? x.square(1, (1 - disc) / 4) : x.square(0, -disc / 4), 1);
    due.is("disc of " + disc, x.disc(0), disc);
    return x;
  }

  private static void known() {
    for (int[] one : BELOW) {
      due.is("classes of " + one[0], house(one[0]).classes(), one[1]);
    }
    for (int[] one : ABOVE) {
      due.is("classes of " + one[0], house(one[0]).classes(), one[1]);
    }
    formsAre(house(-23), new int[] {1, 1, 6, 2, -1, 3, 2, 1, 3});
    formsAre(house(-20), new int[] {1, 0, 5, 2, 2, 3});
    formsAre(house(-39), new int[] {1, 1, 10, 2, -1, 5, 2, 1, 5, 3, 3, 4});
    formsAre(house(-55), new int[] {1, 1, 14, 2, -1, 7, 2, 1, 7, 4, 3, 4});
    formsAre(house(5), new int[] {-1, 1, 1, 1, 1, -1});
    formsAre(house(12), new int[] {-2, 2, 1, -1, 2, 2, 1, 2, -2, 2, 2, -1});
    FieldHouse x = house(12);
    x.element(0, 0, 0);
    x.element(0, 1, 0);
    int all = x.ideal(1, 0);
    int root = x.ideal(3, 1);
    due.is("all of 12: 1 2 -2 and -2 2 1", x.classOf(all), 0);
    due.is("order of all of 12", x.order(all), 1);
    due.is("the root of 3 is of the other cycle, as no unit has norm -1", x.classOf(root), 1);
    due.is("order of the root of 3", x.order(root), 2);
    FieldHouse y = house(-23);
    int two = y.take(2, 0);
    int other = y.take(2, 1);
    due.is("2, 0 of -23: w1 with trace -1", y.classOf(two), 1);
    due.is("2, 1 of -23", y.classOf(other), 2);
    due.is("order of 2, 0", y.order(two), 3);
    due.is("order of 2, 1", y.order(other), 3);
    due.is("order of their product", y.order(y.join(1, two, other)), 1);
  }

  private static void formsAre(FieldHouse x, int[] want) {
    for (int i = 0; i < want.length; i++) {
      due.is("form(" + i / 3 + ", " + i % 3 + ") of " + x.disc(0), x.form(i / 3, i % 3), want[i]);
    }
    due.is("no form more of " + x.disc(0), x.form(want.length / 3, 0), Due.TOLD + 1);
  }

  private static void refusals() {
    FieldHouse x = new FieldHouse();
    due.is("classes, no field", x.classes(), -3);
    due.is("form, no field", x.form(9, 9), Due.TOLD + 3);
    due.is("classOf, no field", x.classOf(9), -3);
    due.is("order, no field", x.order(9), -3);
    due.is("first, no field", x.first(9), Due.TOLD_LONG + 3);
    x.cube(0, 0, -2);
    due.is("classes, cube", x.classes(), -2);
    due.is("form, cube: -2 is told ahead of -1", x.form(-1, 0), Due.TOLD + 2);
    due.is("classOf, cube: -2 is told ahead of -1", x.classOf(0), -2);
    due.is("order, cube: -2 is told ahead of -1", x.order(0), -2);
    due.is("first, cube", x.first(0), Due.TOLD_LONG + 2);
    x.square(0, 5);
    due.is("form(-1, 3): -2 is told ahead of -1", x.form(-1, 3), Due.TOLD + 2);
    due.is("form(0, -1)", x.form(0, -1), Due.TOLD + 2);
    due.is("form(-1, 0)", x.form(-1, 0), Due.TOLD + 1);
    due.is("form(2, 0)", x.form(2, 0), Due.TOLD + 1);
    due.is("classOf(0)", x.classOf(0), -1);
    due.is("classOf(-1)", x.classOf(-1), -1);
    due.is("order(0)", x.order(0), -1);
    due.is("order(-1)", x.order(-1), -1);
    due.is("first below 0", x.first(0), Due.TOLD_LONG + 2);
    due.is("count(11)", x.count(11), 6);
    due.is("count(12)", x.count(12), 8);
    due.is("count(13)", x.count(13), 5);
    x.square(0, -2);
    due.is("first(3)", x.first(3), Due.TOLD_LONG + 2);
    due.is("first(-1)", x.first(-1), Due.TOLD_LONG + 2);
    x.square(1, -180);
    due.is("disc 721", x.disc(0), 721);
    for (int what = 0; what < 3; what++) {
      due.is("first of 721", x.first(what), Due.TOLD_LONG + 6);
    }
    due.is("first(3) of 721: -2 is told first", x.first(3), Due.TOLD_LONG + 2);
    due.is("count(16)", x.count(16), 3);
  }

  /** Every reduced form of every discriminant, found by trying all, in order; and how many cycles they make. */
  private static void lists() {
    Set<Long> seen = new HashSet<>();
    for (int a = 0; a <= 20; a++) {
      for (int b = -200; b <= 200; b++) {
        FieldHouse x = new FieldHouse();
        if (x.square(a, b) == 1 && seen.add(x.disc(0))) {
          List<long[]> want = reducedForms(x.disc(0));
          String of = " of " + x.disc(0);
          for (int k = 0; k < want.size(); k++) {
            for (int what = 0; what < 3; what++) {
              due.is("form(" + k + ", " + what + ")" + of, x.form(k, what), want.get(k)[what]);
            }
          }
          due.is("no more" + of, x.form(want.size(), 0), Due.TOLD + 1);
          int classes = x.disc(0) < 0 ? want.size() : new HashSet<>(cycles(x.disc(0), want).values()).size();
          due.is("classes" + of, x.classes(), classes);
        }
      }
    }
  }

  private static List<long[]> reducedForms(long disc) {
    List<long[]> forms = new ArrayList<>();
    for (long a = -70; a <= 70; a++) {
      for (long b = -70; b <= 70; b++) {
        if (a != 0 && (b * b - disc) % (4 * a) == 0 && isReduced(a, b, (b * b - disc) / (4 * a), disc)) {
          forms.add(new long[] {a, b, (b * b - disc) / (4 * a)});
        }
      }
    }
    return forms;
  }

  private static boolean isReduced(long a, long b, long c, long disc) {
    if (disc < 0) {
      boolean equal = Math.abs(b) == a || a == c;
      return a > 0 && Math.abs(b) <= a && a <= c && !(equal && b < 0);
    }
    double s = Math.sqrt(disc);
    return 0 < b && b < s && s - b < Math.abs(2 * a) && Math.abs(2 * a) < s + b;
  }

  private static long[] next(long[] form, long disc) {
    long c = form[2];
    double s = Math.sqrt(disc);
    long b = form[1];
    long other;
    if (Math.abs(c) < s) {
      other = (long) s;
      while ((b + other) % (2 * c) != 0) {
        other--;
      }
    } else {
      other = Math.floorMod(-b, 2 * Math.abs(c));
      if (other > Math.abs(c)) {
        other -= 2 * Math.abs(c);
      }
    }
    return new long[] {c, other, (other * other - disc) / (4 * c)};
  }

  /** The least number of the cycle of each form, by a and b. */
  private static Map<String, Integer> cycles(long disc, List<long[]> forms) {
    Map<String, Integer> least = new HashMap<>();
    for (int k = 0; k < forms.size(); k++) {
      long[] form = forms.get(k);
      while (least.putIfAbsent(form[0] + " " + form[1], k) == null) {
        form = next(form, disc);
      }
    }
    return least;
  }

  /** The class of each ideal, by the document's words; orders by products, as far as norms allow. */
  private static void ideals(Random random) {
    FieldHouse x = new FieldHouse();
    int made = 0;
    for (int tries = 0; tries < 20 && made != 1; tries++) {
      made = x.square(random.nextInt(41) - 20, random.nextInt(401) - 200);
    }
    long disc = x.disc(0);
    List<long[]> forms = reducedForms(disc);
    Map<String, Integer> least = disc > 0 ? cycles(disc, forms) : numbers(forms);
    x.element(0, 0, 0);
    int all = x.ideal(1, 0);
    int goal = classBy(x, all, least);
    due.is("class of all, disc " + disc, x.classOf(all), goal);
    due.is("order of all, disc " + disc, x.order(all), 1);
    for (int i = 0; i < 6; i++) {
      int ideal;
      if (i < 3) {
        int p = Due.PRIME_NUMBERS[random.nextInt(25)];
        ideal = x.take(p, random.nextInt(x.primes(p)));
      } else {
        int element = x.element(random.nextInt(101) - 50, random.nextInt(601) - 300, 0);
        ideal = x.ideal((int) Math.min(1000000, Math.max(1, Math.abs(x.norm(element, 0)))), element);
      }
      if (ideal >= 0) {
        due.is("class of an ideal, disc " + disc, x.classOf(ideal), classBy(x, ideal, least));
        orderLaw(x, ideal, least, goal);
      }
    }
  }

  private static Map<String, Integer> numbers(List<long[]> forms) {
    Map<String, Integer> number = new HashMap<>();
    for (int k = 0; k < forms.size(); k++) {
      number.put(forms.get(k)[0] + " " + forms.get(k)[1], k);
    }
    return number;
  }

  private static int classBy(FieldHouse x, int ideal, Map<String, Integer> least) {
    long disc = x.disc(0);
    long content = x.row(ideal, 1, 1);
    long a = x.row(ideal, 0, 0) / content;
    long b = x.row(ideal, 1, 0) / content;
    long trace = x.table(1, 1, 1);
    long[] form = {a, 2 * b + trace, (b * b + b * trace - x.table(1, 1, 0)) / a};
    due.is("disc of the form", form[1] * form[1] - 4 * form[0] * form[2], disc);
    while (!isReduced(form[0], form[1], form[2], disc)) {
      form = disc > 0 ? next(form, disc) : alike(form, disc);
    }
    return least.get(form[0] + " " + form[1]);
  }

  /** Turns, if that makes a less; else moves by one y. */
  private static long[] alike(long[] form, long disc) {
    long a = form[0];
    if (form[2] < a || form[2] == a && form[1] < 0 && form[1] >= -a) {
      return new long[] {form[2], -form[1], a};
    }
    long b = Math.floorMod(form[1] + a - 1, 2 * a) - a + 1;
    return new long[] {a, b, (b * b - disc) / (4 * a)};
  }

  private static void orderLaw(FieldHouse x, int ideal, Map<String, Integer> least, int goal) {
    int order = x.order(ideal);
    due.holds("order from 1 to classes", order >= 1 && order <= x.classes());
    int power = ideal;
    int k = 1;
    while (power >= 0 && k < order && x.count(1) < 80) {
      due.holds("power " + k + " is not of the first class", classBy(x, power, least) != goal);
      power = x.join(1, power, ideal);
      k++;
    }
    if (power >= 0 && k == order) {
      due.is("power " + order + " is of the first class", classBy(x, power, least), goal);
    }
  }

  private static void firsts() {
    firstIs(Due.square(-1, -1), 0, 1, -1);
    firstIs(Due.square(0, -2), 1, 1, -1);
    firstIs(Due.square(0, -3), 2, 1, 1);
    firstIs(Due.square(0, -163), 64080026, 5019135, 1);
    firstIs(Due.square(1, -1), 1, 1, -1);
    firstIs(Due.square(20, 98), 11, 1, -1);
    firstIs(Due.square(-20, 98), -9, 1, -1);
    firstIs(Due.square(0, -94), 2143295, 221064, 1);
    for (int a = -20; a <= 20; a++) {
      for (int b = -200; b <= 200; b++) {
        FieldHouse x = new FieldHouse();
        if (x.square(a, b) == 1 && x.disc(0) > 0) {
          lawOfFirst(x, a + " " + b + ": ");
        }
      }
    }
  }

  private static void firstIs(FieldHouse x, long one, long second, long norm) {
    due.is("first(0) of " + x.disc(0), x.first(0), one);
    due.is("first(1) of " + x.disc(0), x.first(1), second);
    due.is("first(2) of " + x.disc(0), x.first(2), norm);
  }

  /** The unit by another way than the class's; and, units growing with their second coordinate, no lesser one. */
  private static void lawOfFirst(FieldHouse x, String field) {
    long disc = x.disc(0);
    BigInteger[] unit = unitByCycle(disc);
    BigInteger most = BigInteger.TEN.pow(15);
    BigInteger trace = BigInteger.valueOf(x.table(1, 1, 1));
    BigInteger one = unit[0].subtract(unit[1].multiply(trace)).shiftRight(1);
    BigInteger four = unit[0].multiply(unit[0]).subtract(BigInteger.valueOf(disc).multiply(unit[1]).multiply(unit[1]));
    due.is(field + "unit", four.abs().intValueExact(), 4);
    if (one.compareTo(most) > 0 || unit[1].compareTo(most) > 0) {
      due.is(field + "first(0)", x.first(0), Due.TOLD_LONG + 6);
      due.is(field + "first(1)", x.first(1), Due.TOLD_LONG + 6);
      due.is(field + "first(2)", x.first(2), Due.TOLD_LONG + 6);
      return;
    }
    due.is(field + "first(0)", x.first(0), one.longValueExact());
    due.is(field + "first(1)", x.first(1), unit[1].longValueExact());
    due.is(field + "first(2)", x.first(2), four.signum());
    long tried = Math.min(300, unit[1].subtract(BigInteger.ONE).longValueExact());
    for (long y = 1; y <= tried; y++) {
      due.holds(field + "no lesser unit", !isSquare(disc * y * y + 4) && !isSquare(disc * y * y - 4));
    }
  }

  private static boolean isSquare(long v) {
    long root = Math.round(Math.sqrt(v));
    return root * root == v;
  }

  /** The product of (b + root of disc) by (2 amount of c), once around the first cycle, is the first unit. */
  private static BigInteger[] unitByCycle(long disc) {
    long s = (long) Math.sqrt(disc);
    long b = (s - disc) % 2 == 0 ? s : s - 1;
    long[] form = {1, b, (b * b - disc) / 4};
    BigInteger t = BigInteger.TWO;
    BigInteger y = BigInteger.ZERO;
    BigInteger below = BigInteger.ONE;
    do {
      BigInteger middle = BigInteger.valueOf(form[1]);
      BigInteger before = t;
      t = t.multiply(middle).add(BigInteger.valueOf(disc).multiply(y));
      y = before.add(y.multiply(middle));
      below = below.multiply(BigInteger.valueOf(2 * Math.abs(form[2])));
      form = next(form, disc);
    } while (Math.abs(form[0]) != 1);
    return new BigInteger[] {t.divide(below), y.divide(below)};
  }
}
