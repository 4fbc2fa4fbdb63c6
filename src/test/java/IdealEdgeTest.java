/** The edges of promises 13 to 18: norms at 1000000, the full house, what divides and what does not, rows. */
public final class IdealEdgeTest {
  private static final Due due = new Due();
  private static final int LEAST = Integer.MIN_VALUE;
  private static final int GREATEST = Integer.MAX_VALUE;

  public static void main(String[] args) {
    numbersOfIdeal(2);
    numbersOfIdeal(3);
    normsOfMultiples();
    normsOfTwo();
    leastIdeals();
    roomOfIdeals(2);
    roomOfIdeals(3);
    normsOfProducts();
    normsOfSumsAndQuotients();
    whatDoesNotDivide();
    kindsAndMembersOfJoin();
    roomOfJoin();
    orderOfJoin();
    rowsAtTheirEnds();
    placesOfRow();
    idealOfTheLeastAndGreatest();
    primesAndNot();
    primesOfCubes();
    placesOfIdealOf();
    whatIsIn();
    whatDivides();
    due.end();
  }

  private static FieldHouse house(int degree) {
    FieldHouse x = degree == 2 ? Due.square(0, 1) : Due.cube(0, 0, -2);
    x.element(0, 0, 0);
    x.element(1, 0, 0);
    return x;
  }

  private static void numbersOfIdeal(int degree) {
    due.promise(13);
    FieldHouse x = degree == 2 ? Due.square(0, 1) : Due.cube(0, 0, -2);
    due.is("ideal(1, 0), no elements yet", x.ideal(1, 0), -1);
    x = house(degree);
    due.is("ideal(1, 1)", x.ideal(1, 1), 0);
    due.is("ideal(1000000, 1)", x.ideal(1000000, 1), 1);
    due.is("ideal(0, 1)", x.ideal(0, 1), -4);
    due.is("ideal(-1, 1)", x.ideal(-1, 1), -4);
    due.is("ideal(least, 1)", x.ideal(LEAST, 1), -4);
    due.is("ideal(1000001, 1)", x.ideal(1000001, 1), -6);
    due.is("ideal(greatest, 1)", x.ideal(GREATEST, 1), -6);
    for (int end : new int[] {LEAST, -1, 2, GREATEST}) {
      due.is("ideal(1, " + end + ")", x.ideal(1, end), -1);
      due.is("ideal(0, " + end + "): -1 is told first", x.ideal(0, end), -1);
      due.is("ideal(1000001, " + end + "): -1 is told first", x.ideal(1000001, end), -1);
    }
    due.is("count(1)", x.count(1), 2);
    due.is("count(11)", x.count(11), 12);
    due.is("count(14)", x.count(14), 3);
    due.is("count(16)", x.count(16), 2);
  }

  private static void normsOfMultiples() {
    due.promise(13);
    FieldHouse x = house(2);
    due.is("norm 1000 1000", x.ideal(1000, 0), 0);
    due.is("its norm", x.idealOf(0, 0), 1000000);
    due.is("norm 1001 1001", x.ideal(1001, 0), -6);
    due.is("norm 1000000 1000000", x.ideal(1000000, 0), -6);
    FieldHouse y = house(3);
    due.is("norm 100 100 100", y.ideal(100, 0), 0);
    due.is("its norm", y.idealOf(0, 0), 1000000);
    due.is("norm 101 101 101", y.ideal(101, 0), -6);
    due.is("norm 1000000 1000000 1000000", y.ideal(1000000, 0), -6);
  }

  /** 1000004 is the least norm above 1000000 that an ideal with a number up to 1000000 can have. */
  private static void normsOfTwo() {
    due.promise(13);
    FieldHouse x = Due.square(1, 78);
    x.element(-164, 158, 0);
    due.is("norm 1000000", x.ideal(500000, 0), 0);
    due.is("its norm", x.idealOf(0, 0), 1000000);
    due.is("its least number", x.idealOf(0, 1), 500000);
    FieldHouse y = Due.square(0, 177);
    y.element(106, 106, 0);
    due.is("norm 1000004", y.ideal(500002, 0), -6);
    due.is("a quarter of it", y.ideal(250001, 0), 0);
    due.is("its norm", y.idealOf(0, 0), 250001);
    FieldHouse z = Due.cube(0, 0, -5);
    z.element(19, -37, 33);
    due.is("its element's norm", z.norm(0, 0), 1000004);
    due.is("norm 1000004 of degree 3", z.ideal(9434, 0), -6);
    due.is("without 89", z.ideal(106, 0), 0);
    due.is("its norm", z.idealOf(0, 0), 4 * 2809);
    due.is("89 alone", z.ideal(89, 0), 1);
    due.is("its norm", z.idealOf(1, 0), 89);
  }

  private static void leastIdeals() {
    due.promise(13);
    FieldHouse x = Due.square(0, 5);
    x.element(300, -300, 0);
    x.element(-1, 0, 0);
    due.is("1 has all", x.idealOf(x.ideal(1, 0), 0), 1);
    due.is("so has -1", x.idealOf(x.ideal(1000000, 1), 0), 1);
    due.is("300 and its multiple have the multiples of 300", x.idealOf(x.ideal(300, 0), 0), 90000);
    due.is("7, which has no part in the norm, makes all", x.idealOf(x.ideal(7, 0), 0), 1);
    due.is("2 and a multiple of it have the multiples of 2", x.idealOf(x.ideal(2, 0), 0), 4);
  }

  private static void roomOfIdeals(int degree) {
    due.promise(13);
    FieldHouse x = house(degree);
    for (int i = 0; i < 80; i++) {
      due.is("ideal " + i, x.ideal(i + 1, 0), i);
    }
    due.is("count(1)", x.count(1), 80);
    due.is("one too many", x.ideal(1, 0), -6);
    due.is("too many, m above", x.ideal(1000001, 0), -6);
    due.is("-4 is told ahead of no room", x.ideal(0, 0), -4);
    due.is("-1 is told ahead of no room", x.ideal(1, 2), -1);
    due.is("count(1) still", x.count(1), 80);
    due.is("ideal 79 still", x.idealOf(79, 1), 80);
    due.is("ideal 0 still", x.idealOf(0, 1), 1);
  }

  private static void normsOfProducts() {
    due.promise(14);
    FieldHouse x = house(2);
    x.element(10, 1, 0);
    x.element(99, 10, 0);
    x.ideal(101, 2);
    x.ideal(9901, 3);
    x.ideal(10, 0);
    x.ideal(100, 0);
    x.ideal(1, 0);
    x.ideal(1000, 0);
    due.is("norm of the first", x.idealOf(0, 0), 101);
    due.is("norm of the second", x.idealOf(1, 0), 9901);
    due.is("a product of norm 1000001", x.join(1, 0, 1), -6);
    due.is("a product of norm 1000000", x.join(1, 2, 3), 6);
    due.is("its norm", x.idealOf(6, 0), 1000000);
    due.is("the greatest with all", x.join(1, 5, 4), 7);
    due.is("its norm", x.idealOf(7, 0), 1000000);
    due.is("the greatest with itself", x.join(1, 5, 5), -6);
    FieldHouse y = Due.cube(0, -1, -1);
    y.element(-4, 0, -1);
    y.element(-5, 19, 6);
    y.element(0, 0, 0);
    y.ideal(101, 0);
    y.ideal(9901, 1);
    y.ideal(10, 2);
    due.is("norm of the first of degree 3", y.idealOf(0, 0), 101);
    due.is("norm of the second of degree 3", y.idealOf(1, 0), 9901);
    due.is("a product of norm 1000001 of degree 3", y.join(1, 0, 1), -6);
    due.is("a product of norm 1000000 of degree 3", y.join(1, 2, 2), 3);
    due.is("its norm", y.idealOf(3, 0), 1000000);
    due.is("the greatest with itself", y.join(1, 3, 3), -6);
    due.is("count(1)", y.count(1), 4);
  }

  private static void normsOfSumsAndQuotients() {
    due.promise(14);
    for (int degree = 2; degree <= 3; degree++) {
      FieldHouse x = house(degree);
      x.ideal(degree == 2 ? 1000 : 100, 0);
      x.ideal(1, 0);
      due.is("sum of the greatest with itself", x.join(0, 0, 0), 2);
      due.is("its norm", x.idealOf(2, 0), 1000000);
      due.is("sum of the greatest with all", x.join(0, 0, 1), 3);
      due.is("its norm", x.idealOf(3, 0), 1);
      due.is("the greatest by itself", x.join(2, 0, 0), 4);
      due.is("its norm", x.idealOf(4, 0), 1);
      due.is("the greatest by all", x.join(2, 0, 1), 5);
      due.is("its norm", x.idealOf(5, 0), 1000000);
      due.is("all by all", x.join(2, 1, 1), 6);
      due.is("its norm", x.idealOf(6, 0), 1);
      due.is("all by the greatest", x.join(2, 1, 0), -3);
    }
  }

  private static void whatDoesNotDivide() {
    due.promise(14);
    FieldHouse x = house(2);
    int five = x.take(5, 0);
    int other = x.take(5, 1);
    int two = x.ideal(2, 0);
    int four = x.ideal(4, 0);
    int six = x.ideal(6, 0);
    due.is("of one norm, but another", x.join(2, five, other), -3);
    due.is("the other way", x.join(2, other, five), -3);
    due.is("2 by 4", x.join(2, two, four), -3);
    due.is("6 by 4", x.join(2, six, four), -3);
    due.is("4 by 6", x.join(2, four, six), -3);
    due.is("6 by 2", x.idealOf(x.join(2, six, two), 1), 3);
    due.is("count(13)", x.count(13), 5);
  }

  private static void kindsAndMembersOfJoin() {
    due.promise(14);
    FieldHouse x = house(2);
    due.is("no ideals yet", x.join(0, 0, 0), -1);
    x.ideal(4, 0);
    x.ideal(2, 0);
    for (int end : new int[] {LEAST, -1, 2, GREATEST}) {
      for (int how = 0; how <= 2; how++) {
        due.is("join(" + how + ", " + end + ", 0)", x.join(how, end, 0), -1);
        due.is("join(" + how + ", 0, " + end + ")", x.join(how, 0, end), -1);
      }
    }
    for (int how : new int[] {LEAST, -1, 3, GREATEST}) {
      due.is("join(" + how + ", 0, 1)", x.join(how, 0, 1), -2);
    }
    for (int how = 0; how <= 2; how++) {
      due.is("join(" + how + ", 0, 1)", x.join(how, 0, 1), 2 + how);
    }
    due.is("the last joined is there", x.join(0, 4, 4), 5);
    due.is("count(11)", x.count(11), 25);
    due.is("count(12)", x.count(12), 4);
  }

  private static void roomOfJoin() {
    due.promise(14);
    for (int how = 0; how <= 2; how++) {
      FieldHouse x = house(2);
      x.ideal(4, 0);
      for (int i = 1; i < 79; i++) {
        x.ideal(2, 0);
      }
      due.is("the last of 80 by join(" + how + ")", x.join(how, 0, 1), 79);
      due.is("one too many by join(" + how + ")", x.join(how, 0, 1), -6);
      due.is("of the last, too", x.join(how, 79, 79), -6);
      due.is("ideal 80 is nobody", x.join(how, 0, 80), -1);
      due.is("no room is told behind other", x.join(3, 0, 1), -2);
      due.is("no room is told behind what does not divide", x.join(2, 1, 0), -3);
      due.is("count(1)", x.count(1), 80);
    }
  }

  private static void orderOfJoin() {
    due.promise(14);
    due.is("no field ahead of nobody", new FieldHouse().join(3, 0, 0), -3);
    FieldHouse x = house(2);
    x.ideal(1000, 0);
    x.ideal(3, 0);
    due.is("nobody ahead of other", x.join(3, 0, 2), -1);
    due.is("nobody ahead of what does not divide", x.join(2, 2, 1), -1);
    due.is("other ahead of what does not divide", x.join(3, 0, 1), -2);
    due.is("other ahead of the norm", x.join(-1, 0, 0), -2);
    due.is("what does not divide", x.join(2, 0, 1), -3);
    due.is("the norm", x.join(1, 0, 1), -6);
  }

  private static void rowsAre(String what, FieldHouse x, int ideal, int... want) {
    int n = x.field(0);
    for (int i = 0; i < n * n; i++) {
      due.is(what + ": row(" + ideal + ", " + i / n + ", " + i % n + ")", x.row(ideal, i / n, i % n), want[i]);
    }
  }

  /** 0 behind; above 0 in its place, 1 the least; ahead 0 and one less than what the row of that place has. */
  private static void rowsAtTheirEnds() {
    due.promise(15);
    FieldHouse x = Due.square(0, 5);
    rowsAre("0 ahead", x, x.take(5, 0), 5, 0, 0, 1);
    rowsAre("the greatest ahead", x, x.take(3, 1), 3, 0, 2, 1);
    x.element(0, 0, 0);
    rowsAre("all", x, x.ideal(1, 0), 1, 0, 0, 1);
    rowsAre("the greatest", x, x.ideal(1000, 0), 1000, 0, 0, 1000);
    FieldHouse y = Due.cube(0, 0, -2);
    rowsAre("the greatest ahead", y, y.take(5, 1), 5, 0, 0, 0, 5, 0, 4, 3, 1);
    rowsAre("0 ahead", y, y.take(2, 0), 2, 0, 0, 0, 1, 0, 0, 0, 1);
    y.element(-1, 0, 1);
    rowsAre("r r less 1", y, y.ideal(3, 0), 3, 0, 0, 1, 1, 0, 2, 0, 1);
    y.element(0, 0, 0);
    rowsAre("all", y, y.ideal(1, 1), 1, 0, 0, 0, 1, 0, 0, 0, 1);
    rowsAre("the greatest", y, y.ideal(100, 1), 100, 0, 0, 0, 100, 0, 0, 0, 100);
  }

  private static void placesOfRow() {
    due.promise(15);
    for (int n = 2; n <= 3; n++) {
      FieldHouse x = house(n);
      due.is("no ideals yet", x.row(0, 0, 0), -1);
      x.ideal(7, 0);
      due.is("the last place", x.row(0, n - 1, n - 1), 7);
      for (int end : new int[] {LEAST, -1, n, GREATEST}) {
        due.is("row(0, " + end + ", 0)", x.row(0, end, 0), -1);
        due.is("row(0, 0, " + end + ")", x.row(0, 0, end), -1);
        due.is("row(0, " + end + ", " + end + ")", x.row(0, end, end), -1);
      }
      for (int end : new int[] {LEAST, -1, 1, GREATEST}) {
        due.is("row(" + end + ", 0, 0)", x.row(end, 0, 0), -1);
      }
      due.is("count(11)", x.count(11), 17);
    }
    FieldHouse full = Due.fullHouse(2);
    due.is("row(79, 1, 1) of a full house", full.row(79, 1, 1), 80);
    due.is("row(80, 0, 0) of a full house", full.row(80, 0, 0), -1);
  }

  /** Norm, least number, whether it is a prime. */
  private static void idealIs(String what, FieldHouse x, int ideal, int norm, int least, int prime) {
    due.is(what + ": norm", x.idealOf(ideal, 0), norm);
    due.is(what + ": least number", x.idealOf(ideal, 1), least);
    due.is(what + ": prime", x.idealOf(ideal, 2), prime);
  }

  private static void idealOfTheLeastAndGreatest() {
    due.promise(16);
    FieldHouse x = house(2);
    idealIs("all", x, x.ideal(1, 0), 1, 1, 0);
    idealIs("1000", x, x.ideal(1000, 0), 1000000, 1000, 0);
    idealIs("over 2", x, x.take(2, 0), 2, 2, 1);
    FieldHouse y = house(3);
    idealIs("all of degree 3", y, y.ideal(1, 0), 1, 1, 0);
    idealIs("100 of degree 3", y, y.ideal(100, 0), 1000000, 100, 0);
    idealIs("over 2 of degree 3", y, y.take(2, 0), 2, 2, 1);
  }

  private static void primesAndNot() {
    due.promise(16);
    FieldHouse x = Due.square(0, 30);
    x.element(136, 257, 0);
    idealIs("999983, the greatest prime number of all norms", x, x.ideal(999983, 0), 999983, 999983, 1);
    FieldHouse two = Due.square(0, 2);
    two.element(0, 0, 0);
    idealIs("997, the greatest that is prime itself", two, two.ideal(997, 0), 994009, 997, 1);
    FieldHouse one = house(2);
    idealIs("997 where it is a product", one, one.ideal(997, 0), 994009, 997, 0);
    idealIs("2 where it is a square", one, one.ideal(2, 0), 4, 2, 0);
    idealIs("3", one, one.ideal(3, 0), 9, 3, 1);
    idealIs("9", one, one.ideal(9, 0), 81, 9, 0);
    idealIs("6", one, one.ideal(6, 0), 36, 6, 0);
    int five = one.take(5, 0);
    idealIs("a prime's square", one, one.join(1, five, five), 25, 25, 0);
    idealIs("a product of two", one, one.join(1, five, one.take(13, 0)), 65, 65, 0);
    idealIs("a product of both over 5", one, one.join(1, five, one.take(5, 1)), 25, 5, 0);
    FieldHouse third = Due.square(1, 1);
    third.element(0, 0, 0);
    idealIs("2 where it is prime", third, third.ideal(2, 0), 4, 2, 1);
    idealIs("4", third, third.ideal(4, 0), 16, 4, 0);
  }

  private static void primesOfCubes() {
    due.promise(16);
    FieldHouse x = house(3);
    idealIs("97, the greatest of degree 3", x, x.ideal(97, 0), 912673, 97, 1);
    idealIs("over 5, of degree 2", x, x.take(5, 1), 25, 5, 1);
    idealIs("5", x, x.ideal(5, 0), 125, 5, 0);
    int two = x.take(2, 0);
    idealIs("a prime's square", x, x.join(1, two, two), 4, 2, 0);
    idealIs("its third power", x, x.ideal(2, 0), 8, 2, 0);
    FieldHouse y = Due.cube(0, -1, -1);
    y.element(0, 0, 0);
    idealIs("97 where it is a product", y, y.ideal(97, 0), 912673, 97, 0);
    idealIs("2 where it is prime", y, y.ideal(2, 0), 8, 2, 1);
    idealIs("4", y, y.ideal(4, 0), 64, 4, 0);
    FieldHouse z = Due.cube(-1, -2, -8);
    int product = z.join(1, z.take(2, 0), z.take(2, 2));
    idealIs("two of three over 2", z, product, 4, 2, 0);
    int other = z.join(1, z.take(2, 1), z.take(2, 2));
    idealIs("another two of three over 2", z, other, 4, 2, 0);
  }

  private static void placesOfIdealOf() {
    due.promise(16);
    FieldHouse x = house(2);
    due.is("no ideals yet", x.idealOf(0, 0), -1);
    x.ideal(7, 0);
    for (int end : new int[] {LEAST, -1, 1, GREATEST}) {
      due.is("idealOf(" + end + ", 0)", x.idealOf(end, 0), -1);
      due.is("idealOf(" + end + ", 3): -1 is told first", x.idealOf(end, 3), -1);
    }
    for (int what : new int[] {LEAST, -1, 3, GREATEST}) {
      due.is("idealOf(0, " + what + ")", x.idealOf(0, what), -2);
    }
    due.is("count(11)", x.count(11), 9);
    due.is("count(12)", x.count(12), 4);
  }

  private static void whatIsIn() {
    due.promise(17);
    FieldHouse x = house(2);
    due.is("no ideals yet", x.in(0, 0), -1);
    x.element(300, -300, 0);
    x.element(-300, 299, 0);
    x.ideal(1, 0);
    x.ideal(1000, 0);
    x.ideal(300, 0);
    due.is("0 is in all", x.in(0, 0), 1);
    due.is("1 is in all", x.in(0, 1), 1);
    due.is("0 is in 1000", x.in(1, 0), 1);
    due.is("1 is not in 1000", x.in(1, 1), 0);
    due.is("300 is not in 1000", x.in(1, 2), 0);
    due.is("300 less 300 w1 is in 300", x.in(2, 2), 1);
    due.is("299 w1 less 300 is not in 300", x.in(2, 3), 0);
    due.is("299 w1 less 300 is in all", x.in(0, 3), 1);
    for (int end : new int[] {LEAST, -1, GREATEST}) {
      due.is("in(" + end + ", 0)", x.in(end, 0), -1);
      due.is("in(0, " + end + ")", x.in(0, end), -1);
    }
    due.is("in(3, 0)", x.in(3, 0), -1);
    due.is("in(2, 3)", x.in(2, 3), 0);
    due.is("in(0, 4)", x.in(0, 4), -1);
    due.is("count(11)", x.count(11), 9);
  }

  private static void whatDivides() {
    due.promise(18);
    FieldHouse x = house(2);
    due.is("no ideals yet", x.divides(0, 0), -1);
    x.ideal(1, 0);
    x.ideal(1000, 0);
    x.take(5, 0);
    x.take(5, 1);
    due.is("all by all", x.divides(0, 0), 1);
    due.is("the greatest by itself", x.divides(1, 1), 1);
    due.is("all divides the greatest", x.divides(0, 1), 1);
    due.is("the greatest does not divide all", x.divides(1, 0), 0);
    due.is("over 5", x.divides(2, 1), 1);
    due.is("of one norm, but another", x.divides(2, 3), 0);
    due.is("the other way", x.divides(3, 2), 0);
    for (int end : new int[] {LEAST, -1, 4, GREATEST}) {
      due.is("divides(" + end + ", 0)", x.divides(end, 0), -1);
      due.is("divides(0, " + end + ")", x.divides(0, end), -1);
    }
    due.is("count(11)", x.count(11), 9);
  }
}
