import java.util.Random;

/** Promises 19 to 22: primes, prime, take, times. */
public final class PrimeTest {
  private static final Due due = new Due();

  public static void main(String[] args) {
    ordinary();
    refusals();
    times();
    for (int a = -3; a <= 3; a++) {
      for (int b = -9; b <= 9; b++) {
        for (int c = -9; c <= 9; c++) {
          laws(Due.cube(a, b, c), "cube(" + a + ", " + b + ", " + c + ") ");
        }
      }
    }
    Random random = new Random(5);
    for (int i = 0; i < 600; i++) {
      int a = random.nextInt(41) - 20;
      int b = random.nextInt(401) - 200;
      laws(Due.square(a, b), "square(" + a + ", " + b + ") ");
    }
    due.end();
  }

  private static void ordinary() {
    FieldHouse x = Due.square(0, 5);
    primeIs(x, 2, 1, 0, new int[] {2, 1, 2, 0, 1, 1});
    primeIs(x, 3, 2, 0, new int[] {1, 1, 3, 0, 1, 1});
    primeIs(x, 3, 2, 1, new int[] {1, 1, 3, 0, 2, 1});
    primeIs(x, 11, 1, 0, new int[] {1, 2, 11, 0, 0, 11});
    primeIs(x, 5, 1, 0, new int[] {2, 1, 5, 0, 0, 1});
    FieldHouse all = Due.cube(-1, -2, -8);
    // r w2 is 2 w2 + 4 and w2 w2 is 3 w2 + 2 r + 6, so that modulo 2 one of r, w2 is put as 0.
    primeIs(all, 2, 3, 0, new int[] {1, 1, 2, 0, 0, 0, 1, 0, 0, 0, 1});
    primeIs(all, 2, 3, 1, new int[] {1, 1, 2, 0, 0, 0, 1, 0, 1, 0, 1});
    primeIs(all, 2, 3, 2, new int[] {1, 1, 2, 0, 0, 1, 1, 0, 0, 0, 1});
    FieldHouse root = Due.cube(0, 0, -2);
    primeIs(root, 2, 1, 0, new int[] {3, 1, 2, 0, 0, 0, 1, 0, 0, 0, 1});
    primeIs(root, 5, 2, 0, new int[] {1, 1, 5, 0, 0, 2, 1, 0, 1, 0, 1});
    primeIs(root, 5, 2, 1, new int[] {1, 2, 5, 0, 0, 0, 5, 0, 4, 3, 1});
    primeIs(root, 7, 1, 0, new int[] {1, 3, 7, 0, 0, 0, 7, 0, 0, 0, 7});
    FieldHouse two = Due.cube(-1, 1, 1);
    due.is("disc -44", two.disc(0), -44);
    due.is("primes(11) of -44", two.primes(11), 2);
    due.is("exponents 1 and 2 of 11", two.prime(11, 0, 0) * two.prime(11, 1, 0), 2);
    due.is("primes(2) of -44", two.primes(2), 1);
    due.is("exponent 3 of 2", two.prime(2, 0, 0), 3);
  }

  private static void primeIs(FieldHouse x, int p, int many, int k, int[] want) {
    due.is("primes(" + p + ")", x.primes(p), many);
    for (int what = 0; what < want.length; what++) {
      due.is("prime(" + p + ", " + k + ", " + what + ")", x.prime(p, k, what), want[what]);
    }
  }

  private static void refusals() {
    FieldHouse x = new FieldHouse();
    due.is("primes, no field", x.primes(4), -3);
    due.is("prime, no field", x.prime(4, 9, 99), -3);
    due.is("take, no field", x.take(4, 9), -3);
    due.is("times, no field", x.times(9, 4, 9), -3);
    x.square(0, 1);
    int[] no = {Integer.MIN_VALUE, -3, -2, -1, 0, 1, 4, 6, 8, 9, 15, 49, 91, 95, 96, 98, 99, 100, 101, 103,
        Integer.MAX_VALUE};
    for (int p : no) {
      due.is("primes(" + p + ")", x.primes(p), -1);
      due.is("prime(" + p + ", 0, 0)", x.prime(p, 0, 0), -1);
      due.is("take(" + p + ", 0)", x.take(p, 0), -1);
    }
    for (int p : Due.PRIME_NUMBERS) {
      due.is("primes(" + p + ")", x.primes(p), p % 4 == 1 ? 2 : 1);
    }
    due.is("prime(5, 2, 99): -1 is told first", x.prime(5, 2, 99), -1);
    due.is("prime(5, -1, 0)", x.prime(5, -1, 0), -1);
    due.is("prime(5, 0, 6)", x.prime(5, 0, 6), -2);
    due.is("prime(5, 0, -1)", x.prime(5, 0, -1), -2);
    due.is("take(5, 2)", x.take(5, 2), -1);
    due.is("take(5, -1)", x.take(5, -1), -1);
    due.is("take(5, 1)", x.take(5, 1), 0);
    due.is("times(1, 5, 0)", x.times(1, 5, 0), -1);
    due.is("times(-1, 5, 0)", x.times(-1, 5, 0), -1);
    due.is("times(0, 4, 0)", x.times(0, 4, 0), -1);
    due.is("times(0, 5, 2)", x.times(0, 5, 2), -1);
    due.is("times(0, 5, -1)", x.times(0, 5, -1), -1);
    FieldHouse y = Due.cube(0, 0, -2);
    due.is("prime(2, 0, 10)", y.prime(2, 0, 10), 1);
    due.is("prime(2, 0, 11)", y.prime(2, 0, 11), -2);
  }

  private static void times() {
    FieldHouse x = Due.square(0, 1);
    x.element(0, 0, 0);
    x.ideal(1, 0);
    x.ideal(1000, 0);
    x.ideal(512, 0);
    due.is("2 in all", x.times(0, 2, 0), 0);
    due.is("2 in 1000", x.times(1, 2, 0), 6);
    due.is("5, 0 in 1000", x.times(1, 5, 0), 3);
    due.is("5, 1 in 1000", x.times(1, 5, 1), 3);
    due.is("3 in 1000", x.times(1, 3, 0), 0);
    due.is("2 in 512", x.times(2, 2, 0), 18);
    int five = x.take(5, 1);
    int square = x.join(1, five, five);
    due.is("5, 1 in its square", x.times(square, 5, 1), 2);
    due.is("5, 0 in the other's square", x.times(square, 5, 0), 0);
    FieldHouse y = Due.cube(0, 0, -2);
    y.element(0, 0, 0);
    y.element(0, 1, 0);
    due.is("64 in a cube", y.times(y.ideal(64, 0), 2, 0), 18);
    due.is("root of 2", y.times(y.ideal(64, 1), 2, 0), 1);
  }

  /** Over each p: exponents times degrees make n, the product is p, the order is as told, all are primes. */
  private static void laws(FieldHouse x, String field) {
    if (x.count(13) > 0) {
      return;
    }
    int n = x.field(0);
    for (int p : Due.PRIME_NUMBERS) {
      // A house has room for 80 ideals only; the field is made anew for each p by the same call.
      FieldHouse y = n == 2 ? Due.square(polynomial(x, 1), polynomial(x, 0))
          : Due.cube(polynomial(x, 2), polynomial(x, 1), polynomial(x, 0));
      lawsOver(y, n, p, field + "over " + p + ": ");
    }
  }

  /** The polynomial's coefficient at x to the k, by r as an element. */
  private static int polynomial(FieldHouse x, int k) {
    int n = x.field(0);
    int d = x.basis(1, n);
    int h = x.basis(1, 0);
    if (x.count(0) == 0) {
      x.element(-h, d, 0);
    }
    if (k == 0) {
      return (int) (n == 2 ? x.norm(0, 0) : -x.norm(0, 0));
    }
    return (int) (k == n - 1 ? -x.norm(0, 1) : x.norm(0, 2));
  }

  private static void lawsOver(FieldHouse y, int n, int p, String where) {
    int many = y.primes(p);
    y.element(0, 0, 0);
    int all = y.ideal(p, 0);
    int product = y.ideal(1, 0);
    int sum = 0;
    for (int k = 0; k < many; k++) {
      int ideal = y.take(p, k);
      int exponent = y.prime(p, k, 0);
      int degree = y.prime(p, k, 1);
      sum += exponent * degree;
      due.is(where + "norm", y.idealOf(ideal, 0), power(p, degree));
      due.is(where + "prime", y.idealOf(ideal, 2), 1);
      due.is(where + "times in p", y.times(all, p, k), exponent);
      due.is(where + "divides p", y.divides(ideal, all), 1);
      for (int e = 0; e < exponent; e++) {
        product = y.join(1, product, ideal);
      }
      for (int i = 0; i < n * n; i++) {
        due.is(where + "row", y.row(ideal, i / n, i % n), y.prime(p, k, 2 + i));
      }
      due.holds(where + "order", k == 0 || comesBefore(y, n, p, k - 1, k));
    }
    due.is(where + "exponents times degrees", sum, n);
    due.is(where + "product is p", y.divides(product, all) * y.divides(all, product), 1);
  }

  private static boolean comesBefore(FieldHouse y, int n, int p, int k, int l) {
    for (int what = 1; what < 2 + n * n; what++) {
      int first = y.prime(p, k, what);
      int second = y.prime(p, l, what);
      if (first != second) {
        return first < second;
      }
    }
    return false;
  }

  private static int power(int p, int degree) {
    int product = 1;
    for (int i = 0; i < degree; i++) {
      product *= p;
    }
    return product;
  }
}
