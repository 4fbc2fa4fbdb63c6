import java.util.Random;

/** Promises 13 to 18: ideal, join, row, idealOf, in, divides. */
public final class IdealTest {
  private static final Due due = new Due();
  private static final long[][][] table = new long[3][3][3];
  private static int n;

  public static void main(String[] args) {
    ordinary();
    refusalsOfIdeal();
    refusalsOfJoin();
    refusalsOfQuestions();
    fullHouse();
    primeOrNot();
    for (int seed = 0; seed < 1000; seed++) {
      laws(seed);
    }
    due.end();
  }

  private static void ordinary() {
    FieldHouse x = Due.square(0, 5);
    x.element(1, 1, 0);
    x.element(0, 0, 0);
    x.element(3, 1, 0);
    due.is("ideal(2, 0)", x.ideal(2, 0), 0);
    rowsAre(x, 0, 2, 0, 1, 1);
    due.is("ideal(3, 0)", x.ideal(3, 0), 1);
    rowsAre(x, 1, 3, 0, 1, 1);
    due.is("ideal(7, 1)", x.ideal(7, 1), 2);
    rowsAre(x, 2, 7, 0, 0, 7);
    due.is("ideal(1, 1)", x.ideal(1, 1), 3);
    rowsAre(x, 3, 1, 0, 0, 1);
    due.is("product of 2 and 3", x.join(1, 0, 1), 4);
    rowsAre(x, 4, 6, 0, 1, 1);
    due.is("its norm", x.idealOf(4, 0), 6);
    due.is("its least number", x.idealOf(4, 1), 6);
    due.is("sum", x.join(0, 4, 0), 5);
    rowsAre(x, 5, 2, 0, 1, 1);
    due.is("quotient", x.join(2, 4, 0), 6);
    rowsAre(x, 6, 3, 0, 1, 1);
    due.is("square", x.join(1, 0, 0), 7);
    rowsAre(x, 7, 2, 0, 0, 2);
    due.is("least number of 2", x.idealOf(7, 1), 2);
    due.is("norm of 2", x.idealOf(7, 0), 4);
    due.is("1 + w is in", x.in(0, 0), 1);
    due.is("3 + w is not in", x.in(1, 2), 0);
    due.is("0 is in", x.in(2, 1), 1);
    due.is("divides(0, 4)", x.divides(0, 4), 1);
    due.is("divides(4, 0)", x.divides(4, 0), 0);
    due.is("divides(3, 2)", x.divides(3, 2), 1);
  }

  private static void rowsAre(FieldHouse x, int i, int a, int b, int c, int d) {
    due.is("row(" + i + ", 0, 0)", x.row(i, 0, 0), a);
    due.is("row(" + i + ", 0, 1)", x.row(i, 0, 1), b);
    due.is("row(" + i + ", 1, 0)", x.row(i, 1, 0), c);
    due.is("row(" + i + ", 1, 1)", x.row(i, 1, 1), d);
  }

  private static void refusalsOfIdeal() {
    FieldHouse x = new FieldHouse();
    due.is("no field", x.ideal(0, 0), -3);
    x.cube(0, 0, -2);
    due.is("no such element ahead of m", x.ideal(0, 0), -1);
    x.element(0, 0, 0);
    x.element(1, 0, 0);
    due.is("no such element below", x.ideal(1, -1), -1);
    due.is("ideal(0, 0)", x.ideal(0, 0), -4);
    due.is("ideal(least, 0)", x.ideal(Integer.MIN_VALUE, 0), -4);
    due.is("ideal(1000001, 1)", x.ideal(1000001, 1), -6);
    due.is("ideal(greatest, 1)", x.ideal(Integer.MAX_VALUE, 1), -6);
    due.is("norm 101 101 101", x.ideal(101, 0), -6);
    due.is("norm 1000000 1000000 1000000", x.ideal(1000000, 0), -6);
    due.is("norm 100 100 100", x.ideal(100, 0), 0);
    due.is("its norm", x.idealOf(0, 0), 1000000);
    due.is("ideal(1000000, 1)", x.ideal(1000000, 1), 1);
    due.is("its norm", x.idealOf(1, 0), 1);
    due.is("count(1)", x.count(1), 2);
    FieldHouse y = Due.square(0, 1);
    y.element(0, 0, 0);
    y.element(1, 0, 0);
    due.is("norm 1000 1000", y.ideal(1000, 0), 0);
    due.is("norm 1001 1001", y.ideal(1001, 0), -6);
  }

  private static void refusalsOfJoin() {
    FieldHouse x = new FieldHouse();
    due.is("no field", x.join(9, 9, 9), -3);
    x.square(0, 1);
    x.element(0, 0, 0);
    x.ideal(1000, 0);
    x.ideal(3, 0);
    x.ideal(1, 0);
    due.is("no such first", x.join(9, 3, 0), -1);
    due.is("no such second", x.join(9, 0, -1), -1);
    due.is("other above", x.join(3, 0, 0), -2);
    due.is("other below", x.join(-1, 0, 0), -2);
    due.is("does not divide", x.join(2, 0, 1), -3);
    due.is("does not divide: the greater", x.join(2, 2, 1), -3);
    due.is("norm too great", x.join(1, 0, 1), -6);
    due.is("greatest squared", x.join(1, 0, 0), -6);
    due.is("greatest times all", x.join(1, 0, 2), 3);
    due.is("quotient by itself", x.join(2, 0, 0), 4);
    due.is("its norm", x.idealOf(4, 0), 1);
    due.is("quotient by all", x.join(2, 0, 2), 5);
    due.is("its norm", x.idealOf(5, 0), 1000000);
    due.is("sum", x.join(0, 0, 1), 6);
    due.is("its norm", x.idealOf(6, 0), 1);
  }

  private static void refusalsOfQuestions() {
    FieldHouse x = new FieldHouse();
    due.is("row, no field", x.row(9, 9, 9), -3);
    due.is("idealOf, no field", x.idealOf(9, 9), -3);
    due.is("in, no field", x.in(9, 9), -3);
    due.is("divides, no field", x.divides(9, 9), -3);
    x.cube(-1, -2, -8);
    x.element(0, 0, 0);
    x.ideal(5, 0);
    due.is("row(1, 0, 0)", x.row(1, 0, 0), -1);
    due.is("row(-1, 0, 0)", x.row(-1, 0, 0), -1);
    due.is("row(0, 3, 0)", x.row(0, 3, 0), -1);
    due.is("row(0, 0, 3)", x.row(0, 0, 3), -1);
    due.is("row(0, -1, 0)", x.row(0, -1, 0), -1);
    due.is("row(0, 0, -1)", x.row(0, 0, -1), -1);
    due.is("row(0, 2, 2)", x.row(0, 2, 2), 5);
    due.is("row(0, 0, 2)", x.row(0, 0, 2), 0);
    due.is("idealOf(1, 9): -1 is told first", x.idealOf(1, 9), -1);
    due.is("idealOf(0, 3)", x.idealOf(0, 3), -2);
    due.is("idealOf(0, -1)", x.idealOf(0, -1), -2);
    due.is("in(1, 0)", x.in(1, 0), -1);
    due.is("in(0, 1)", x.in(0, 1), -1);
    due.is("in(-1, 0)", x.in(-1, 0), -1);
    due.is("divides(0, 1)", x.divides(0, 1), -1);
    due.is("divides(1, 0)", x.divides(1, 0), -1);
    due.is("divides(0, -1)", x.divides(0, -1), -1);
  }

  private static void fullHouse() {
    FieldHouse x = Due.square(0, 1);
    x.element(0, 0, 0);
    for (int i = 0; i < 80; i++) {
      due.is("ideal " + i, x.ideal(i + 1, 0), i);
    }
    due.is("ideal 80", x.ideal(1, 0), -6);
    due.is("ideal 80, below", x.ideal(0, 0), -4);
    due.is("join 80", x.join(0, 0, 0), -6);
    due.is("join 80, does not divide", x.join(2, 1, 2), -3);
    due.is("take 80", x.take(2, 0), -6);
    due.is("take 80, no such", x.take(2, 1), -1);
    due.is("count(1)", x.count(1), 80);
    due.is("the last stays", x.idealOf(79, 0), 6400);
  }

  private static void primeOrNot() {
    FieldHouse x = Due.square(0, 1);
    x.element(0, 0, 0);
    int[] prime = {3, 7, 11, 103, 983, 991};
    for (int m : prime) {
      due.is(m + " is prime", x.idealOf(x.ideal(m, 0), 2), 1);
    }
    int[] no = {1, 2, 4, 5, 6, 9, 21, 101, 997, 961};
    for (int m : no) {
      due.is(m + " is not prime", x.idealOf(x.ideal(m, 0), 2), 0);
    }
    x.element(1, 300, 0);
    due.is("norm 90001 of 1 + 300 i", x.norm(1, 0), 90001);
    due.is("it is prime", x.idealOf(x.ideal(90001, 1), 2), 1);
    x.element(3, 4, 0);
    due.is("the square of a prime", x.idealOf(x.ideal(25, 2), 2), 0);
    FieldHouse root = Due.square(0, 5);
    root.element(0, 0, 0);
    due.is("5 is not prime where w1 w1 is -5", root.idealOf(root.ideal(5, 0), 2), 0);
    FieldHouse y = Due.cube(0, 0, -2);
    y.element(0, 0, 0);
    y.element(0, 1, 0);
    due.is("7 is prime", y.idealOf(y.ideal(7, 0), 2), 1);
    due.is("5 is not", y.idealOf(y.ideal(5, 0), 2), 0);
    due.is("2 is not", y.idealOf(y.ideal(2, 0), 2), 0);
    due.is("root of 2 is", y.idealOf(y.ideal(2, 1), 2), 1);
    int second = y.take(5, 1);
    due.is("a prime of degree 2", y.idealOf(second, 2), 1);
    int first = y.take(5, 0);
    due.is("a square of degree 1", y.idealOf(y.join(1, first, first), 2), 0);
    int square = y.join(1, second, first);
    due.is("all of 5", y.idealOf(square, 0), 125);
  }

  /** Ideals by what they must do with one another. */
  private static void laws(int seed) {
    Random random = new Random(seed);
    FieldHouse x = new FieldHouse();
    int made = 0;
    for (int tries = 0; tries < 20 && made != 1; tries++) {
      made = seed % 3 != 0 ? x.cube(random.nextInt(7) - 3, random.nextInt(19) - 9, random.nextInt(19) - 9)
          : x.square(random.nextInt(41) - 20, random.nextInt(401) - 200);
    }
    n = x.field(0);
    for (int i = 0; i < n * n * n; i++) {
      table[i / n / n][i / n % n][i % n] = x.table(i / n / n, i / n % n, i % n);
    }
    for (int i = 0; i < 4; i++) {
      int element = x.element(random.nextInt(13) - 6, random.nextInt(13) - 6, n == 3 ? random.nextInt(13) - 6 : 0);
      int m = (int) Math.min(1000000, Math.max(1, Math.abs(x.norm(element, 0))));
      lawOfIdeal(x, x.ideal(i < 3 ? m : 1 + random.nextInt(60), element), element);
    }
    for (int t = 0; t < 4 && x.count(1) > 0; t++) {
      lawsOfTwo(x, random.nextInt(x.count(1)), random.nextInt(x.count(1)));
    }
  }

  private static int[][] rows(FieldHouse x, int i) {
    int[][] rows = new int[n][n];
    for (int k = 0; k < n * n && i >= 0; k++) {
      rows[k / n][k % n] = x.row(i, k / n, k % n);
    }
    return rows;
  }

  private static void lawOfIdeal(FieldHouse x, int ideal, int element) {
    if (ideal < 0) {
      return;
    }
    due.is("an ideal has its element", x.in(ideal, element), 1);
    int[][] rows = rows(x, ideal);
    long norm = 1;
    for (int i = 0; i < n; i++) {
      norm *= rows[i][i];
      due.holds("above 0", rows[i][i] > 0);
      for (int j = 0; j < n; j++) {
        int there = rows[i][j];
        due.holds("row " + i + " place " + j, j > i ? there == 0 : j == i || there >= 0 && there < rows[j][j]);
      }
      for (int j = 1; j < n; j++) {
        due.holds("an ideal has the product of row " + i + " with w" + j, hasProduct(rows, i, j));
      }
    }
    due.is("norm", x.idealOf(ideal, 0), norm);
    due.is("least number", x.idealOf(ideal, 1), rows[0][0]);
  }

  private static boolean hasProduct(int[][] rows, int i, int j) {
    long[] v = new long[n];
    for (int s = 0; s < n; s++) {
      for (int k = 0; k < n; k++) {
        v[k] += rows[i][s] * table[s][j][k];
      }
    }
    for (int place = n - 1; place >= 0; place--) {
      if (v[place] % rows[place][place] != 0) {
        return false;
      }
      long many = v[place] / rows[place][place];
      for (int k = 0; k <= place; k++) {
        v[k] -= many * rows[place][k];
      }
    }
    return true;
  }

  private static void lawsOfTwo(FieldHouse x, int i, int j) {
    int[][] first = rows(x, i);
    int[][] second = rows(x, j);
    int sum = x.join(0, i, j);
    due.is("the sum divides the first", x.divides(sum, i), 1);
    due.is("the sum divides the second", x.divides(sum, j), 1);
    due.is("i and j divide each other only if same", x.divides(i, j) * x.divides(j, i), same(first, second) ? 1 : 0);
    int product = x.join(1, i, j);
    long norm = (long) x.idealOf(i, 0) * x.idealOf(j, 0);
    due.holds("a product has a place just if its norm is small", (norm <= 1000000) == (product >= 0));
    int part = x.join(2, i, sum);
    due.is("quotient times divisor: norm", (long) x.idealOf(part, 0) * x.idealOf(sum, 0), x.idealOf(i, 0));
    due.holds("quotient times divisor", same(rows(x, x.join(1, part, sum)), first));
    if (product >= 0) {
      due.is("norm of the product", x.idealOf(product, 0), norm);
      due.holds("product by the second", same(rows(x, x.join(2, product, j)), first));
      due.holds("product by the first", same(rows(x, x.join(2, product, i)), second));
      due.is("quotient the other way", x.join(2, i, product) >= 0 ? 1 : 0, x.idealOf(j, 0) == 1 ? 1 : 0);
    }
  }

  private static boolean same(int[][] rows, int[][] others) {
    for (int k = 0; k < n * n; k++) {
      if (rows[k / n][k % n] != others[k / n][k % n]) {
        return false;
      }
    }
    return true;
  }
}
