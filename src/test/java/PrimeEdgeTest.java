/** The edges of promises 19 to 22: prime numbers from 2 to 97, their order, the full house, how many times. */
public final class PrimeEdgeTest {
  private static final Due due = new Due();
  private static final int LEAST = Integer.MIN_VALUE;
  private static final int GREATEST = Integer.MAX_VALUE;

  public static void main(String[] args) {
    numbersOfPrimes();
    howManyPrimes();
    numbersOfPrime();
    kindsOfPrime();
    orderOfPrimes();
    members(2);
    members(3);
    roomOfTake();
    greatestTaken();
    timesOfTheLeast();
    timesOfTheGreatest();
    membersOfTimes();
    due.end();
  }

  private static boolean isPrimeNumber(int p) {
    for (int known : Due.PRIME_NUMBERS) {
      if (p == known) {
        return true;
      }
    }
    return false;
  }

  private static void numbersOfPrimes() {
    due.promise(19);
    FieldHouse x = Due.square(0, 1);
    for (int p = -100; p <= 210; p++) {
      due.is("primes(" + p + ")", x.primes(p), !isPrimeNumber(p) ? -1 : p % 4 == 1 ? 2 : 1);
    }
    due.is("primes(least)", x.primes(LEAST), -1);
    due.is("primes(greatest), which is a prime number", x.primes(GREATEST), -1);
    due.is("primes(999983), too", x.primes(999983), -1);
    due.is("count(11)", x.count(11), 311 - 25 + 3);
    due.is("no ideals are made", x.count(1), 0);
  }

  private static void howManyPrimes() {
    due.promise(19);
    due.is("2 in three", Due.cube(-1, -2, -8).primes(2), 3);
    due.is("2 in one, three times", Due.cube(0, 0, -2).primes(2), 1);
    due.is("2 in one of degree 3", Due.cube(0, -1, -1).primes(2), 1);
    due.is("97 in one of degree 3", Due.cube(0, 0, -2).primes(97), 1);
    due.is("97 in two", Due.cube(0, -1, -1).primes(97), 2);
    due.is("97 in three", Due.cube(-1, -2, 1).primes(97), 3);
    due.is("97 in two of degree 2", Due.square(0, 1).primes(97), 2);
    due.is("97 in one of degree 2, twice", Due.square(0, 97).primes(97), 1);
  }

  /** What prime, take and times say of numbers that are no prime numbers, or not up to 97. */
  private static void numbersOfPrime() {
    FieldHouse x = Due.square(0, 1);
    x.element(0, 0, 0);
    x.ideal(97, 0);
    for (int p : new int[] {LEAST, -97, -2, -1, 0, 1, 4, 9, 95, 96, 98, 99, 101, GREATEST}) {
      due.promise(20);
      due.is("prime(" + p + ", 0, 0)", x.prime(p, 0, 0), -1);
      due.promise(21);
      due.is("take(" + p + ", 0)", x.take(p, 0), -1);
      due.promise(22);
      due.is("times(0, " + p + ", 0)", x.times(0, p, 0), -1);
    }
    due.promise(20);
    due.is("prime(2, 0, 2)", x.prime(2, 0, 2), 2);
    due.is("prime(97, 0, 2)", x.prime(97, 0, 2), 97);
    due.promise(22);
    due.is("times(0, 2, 0)", x.times(0, 2, 0), 0);
    due.is("times(0, 97, 1)", x.times(0, 97, 1), 1);
    due.promise(21);
    due.is("take(2, 0)", x.take(2, 0), 1);
    due.is("take(97, 1)", x.take(97, 1), 2);
    due.is("count(11)", x.count(11), 42);
  }

  private static void kindsOfPrime() {
    due.promise(20);
    for (int n = 2; n <= 3; n++) {
      FieldHouse x = n == 2 ? Due.square(0, 5) : Due.cube(0, 0, -2);
      due.is("the last place", x.prime(5, 0, 1 + n * n), 1);
      for (int what : new int[] {LEAST, -1, 2 + n * n, GREATEST}) {
        due.is("prime(5, 0, " + what + ") of degree " + n, x.prime(5, 0, what), -2);
        due.is("prime(5, -1, " + what + "): -1 is told first", x.prime(5, -1, what), -1);
        due.is("prime(4, 0, " + what + "): -1 is told first", x.prime(4, 0, what), -1);
      }
      due.is("count(11)", x.count(11), 8);
      due.is("count(12)", x.count(12), 4);
    }
  }

  private static void primeIs(FieldHouse x, int p, int k, int... want) {
    for (int what = 0; what < want.length; what++) {
      due.is("prime(" + p + ", " + k + ", " + what + ") of " + x.disc(1), x.prime(p, k, what), want[what]);
    }
  }

  /** The lesser degree is first; of one degree the lesser number at the first place in which rows differ. */
  private static void orderOfPrimes() {
    due.promise(20);
    FieldHouse cube = Due.cube(0, 0, -2);
    primeIs(cube, 5, 0, 1, 1, 5, 0, 0, 2, 1, 0, 1, 0, 1);
    primeIs(cube, 5, 1, 1, 2, 5, 0, 0, 0, 5, 0, 4, 3, 1);
    primeIs(cube, 3, 0, 3, 1, 3, 0, 0, 1, 1, 0, 2, 0, 1);
    primeIs(cube, 7, 0, 1, 3, 7, 0, 0, 0, 7, 0, 0, 0, 7);
    FieldHouse three = Due.cube(-1, -2, -8);
    // The first and the second differ in the last row alone.
    primeIs(three, 2, 0, 1, 1, 2, 0, 0, 0, 1, 0, 0, 0, 1);
    primeIs(three, 2, 1, 1, 1, 2, 0, 0, 0, 1, 0, 1, 0, 1);
    primeIs(three, 2, 2, 1, 1, 2, 0, 0, 1, 1, 0, 0, 0, 1);
    FieldHouse two = Due.cube(-1, 1, 1);
    due.is("of -44 one over 11 is there twice", two.prime(11, 0, 0) + two.prime(11, 1, 0), 3);
    due.is("both of degree 1", two.prime(11, 0, 1) + two.prime(11, 1, 1), 2);
    due.holds("the lesser number first", two.prime(11, 0, 5) < two.prime(11, 1, 5));
    FieldHouse square = Due.square(0, 1);
    primeIs(square, 2, 0, 2, 1, 2, 0, 1, 1);
    primeIs(square, 3, 0, 1, 2, 3, 0, 0, 3);
    primeIs(square, 97, 0, 1, 1, 97, 0, 22, 1);
    primeIs(square, 97, 1, 1, 1, 97, 0, 75, 1);
  }

  private static void members(int degree) {
    FieldHouse x = degree == 2 ? Due.square(0, 1) : Due.cube(0, 0, -2);
    x.element(0, 0, 0);
    x.ideal(5, 0);
    for (int k : new int[] {LEAST, -1, 2, 3, GREATEST}) {
      due.promise(20);
      due.is("prime(5, " + k + ", 0)", x.prime(5, k, 0), -1);
      due.promise(21);
      due.is("take(5, " + k + ")", x.take(5, k), -1);
      due.promise(22);
      due.is("times(0, 5, " + k + ")", x.times(0, 5, k), -1);
    }
    for (int p = 2; p <= 3; p++) {
      due.promise(20);
      due.is("prime(" + p + ", 1, 0): there is one alone", x.prime(p, 1, 0), -1);
      due.promise(21);
      due.is("take(" + p + ", 1)", x.take(p, 1), -1);
      due.promise(22);
      due.is("times(0, " + p + ", 1)", x.times(0, p, 1), -1);
    }
    due.promise(20);
    due.is("the last", x.prime(5, 1, 0), 1);
    due.promise(22);
    due.is("the last", x.times(0, 5, 1), 1);
    due.promise(21);
    due.is("the last", x.take(5, 1), 1);
    due.is("count(11)", x.count(11), 21);
  }

  private static void roomOfTake() {
    due.promise(21);
    for (int degree = 2; degree <= 3; degree++) {
      FieldHouse x = degree == 2 ? Due.square(0, 1) : Due.cube(0, 0, -2);
      for (int i = 0; i < 80; i++) {
        due.is("taken " + i, x.take(97, 0), i);
      }
      due.is("one too many", x.take(2, 0), -6);
      due.is("-1 is told ahead of no room", x.take(2, 1), -1);
      due.is("-1 is told ahead of no room: 101", x.take(101, 0), -1);
      due.is("count(1)", x.count(1), 80);
      due.is("count(16)", x.count(16), 1);
    }
  }

  private static void greatestTaken() {
    due.promise(21);
    FieldHouse x = Due.cube(0, 0, -2);
    due.is("take(97, 0)", x.take(97, 0), 0);
    due.is("its norm", x.idealOf(0, 0), 912673);
    due.is("it is a prime", x.idealOf(0, 2), 1);
    due.is("its last row", x.row(0, 2, 2), 97);
    due.is("take(2, 0)", x.take(2, 0), 1);
    due.is("its norm", x.idealOf(1, 0), 2);
  }

  private static void timesOfTheLeast() {
    due.promise(22);
    FieldHouse x = Due.square(0, 1);
    x.element(0, 0, 0);
    int all = x.ideal(1, 0);
    for (int p : Due.PRIME_NUMBERS) {
      due.is(p + " in all", x.times(all, p, 0), 0);
    }
    int five = x.take(5, 0);
    due.is("a prime in itself", x.times(five, 5, 0), 1);
    due.is("of the same norm, another", x.times(five, 5, 1), 0);
    due.is("of a lesser norm", x.times(five, 2, 0), 0);
    due.is("of a greater norm", x.times(five, 97, 0), 0);
    int square = x.join(1, five, five);
    due.is("in its square", x.times(square, 5, 0), 2);
    due.is("the other in it", x.times(square, 5, 1), 0);
  }

  private static void timesOfTheGreatest() {
    due.promise(22);
    FieldHouse x = Due.square(0, 1);
    x.element(0, 0, 0);
    int two = x.take(2, 0);
    int most = x.join(1, x.ideal(512, 0), two);
    due.is("2 to the 19 is the greatest power of 2 up to 1000000", x.idealOf(most, 0), 524288);
    due.is("19 times", x.times(most, 2, 0), 19);
    due.is("once more is too much", x.join(1, most, two), -6);
    int thousand = x.ideal(1000, 0);
    due.is("2 in 1000", x.times(thousand, 2, 0), 6);
    due.is("over 5 in 1000", x.times(thousand, 5, 1), 3);
    due.is("over 97 in 970", x.times(x.ideal(970, 0), 97, 0), 1);
    FieldHouse y = Due.cube(0, 0, -2);
    y.element(0, 0, 0);
    y.element(0, 1, 0);
    due.is("97 in 97", y.times(y.ideal(97, 0), 97, 0), 1);
    int root = y.ideal(2, 1);
    due.is("19 times in a cube", y.times(y.join(1, y.ideal(64, 0), root), 2, 0), 19);
    due.is("degree 2, three times in 25 and itself", y.times(y.join(1, y.ideal(25, 0), y.take(5, 1)), 5, 1), 3);
  }

  private static void membersOfTimes() {
    due.promise(22);
    FieldHouse x = Due.square(0, 1);
    due.is("no ideals yet", x.times(0, 2, 0), -1);
    x.element(0, 0, 0);
    x.ideal(2, 0);
    for (int end : new int[] {LEAST, -1, 1, GREATEST}) {
      due.is("times(" + end + ", 2, 0)", x.times(end, 2, 0), -1);
    }
    due.is("times(0, 2, 0)", x.times(0, 2, 0), 2);
    due.is("count(11)", x.count(11), 5);
    due.is("ideal 79 of a full house", Due.fullHouse(2).times(79, 2, 0), 8);
    due.is("ideal 80 of a full house", Due.fullHouse(2).times(80, 2, 0), -1);
  }
}
