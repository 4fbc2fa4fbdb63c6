/** Promises 1 to 7: a new object, square, cube, field, disc, basis, table. */
public final class FieldTest {
  private static final Due due = new Due();

  public static void main(String[] args) {
    newObject();
    limits();
    products();
    newFieldEmptiesTheHouse();
    refusedFieldKeepsTheOld();
    numbersOfFields();
    allSquares();
    allCubes();
    due.end();
  }

  private static void newObject() {
    FieldHouse x = new FieldHouse();
    due.is("new: count(0)", x.count(0), 0);
    due.is("new: count(1)", x.count(1), 0);
    for (int what = 11; what <= 16; what++) {
      due.is("new: count(" + what + ")", x.count(what), 0);
    }
    due.is("new: field(0)", x.field(0), -3);
    due.is("new: count(13)", x.count(13), 1);
  }

  private static void limits() {
    FieldHouse x = new FieldHouse();
    due.is("square(-20, -200)", x.square(-20, -200), 1);
    due.is("square(20, 200)", x.square(20, 200), 1);
    due.is("square(-21, 1)", x.square(-21, 1), -4);
    due.is("square(1, -201)", x.square(1, -201), -4);
    due.is("square(21, 1)", x.square(21, 1), -6);
    due.is("square(1, 201)", x.square(1, 201), -6);
    due.is("square(21, -201): -4 is told first", x.square(21, -201), -4);
    due.is("square(-21, 201): -4 is told first", x.square(-21, 201), -4);
    due.is("square(least)", x.square(Integer.MIN_VALUE, Integer.MIN_VALUE), -4);
    due.is("square(greatest)", x.square(Integer.MAX_VALUE, Integer.MAX_VALUE), -6);
    due.is("cube(-3, 9, -9)", x.cube(-3, 9, -9), 1);
    due.is("cube(3, -9, 5)", x.cube(3, -9, 5), -3);
    due.is("cube(3, 9, 9)", x.cube(3, 9, 9), 1);
    due.is("cube(-4, 1, 1)", x.cube(-4, 1, 1), -4);
    due.is("cube(1, -10, 1)", x.cube(1, -10, 1), -4);
    due.is("cube(1, 1, -10)", x.cube(1, 1, -10), -4);
    due.is("cube(4, 1, 1)", x.cube(4, 1, 1), -6);
    due.is("cube(1, 10, 1)", x.cube(1, 10, 1), -6);
    due.is("cube(1, 1, 10)", x.cube(1, 1, 10), -6);
    due.is("cube(4, 1, -10): -4 is told first", x.cube(4, 1, -10), -4);
    due.is("cube(least)", x.cube(Integer.MIN_VALUE, 0, 0), -4);
    due.is("cube(greatest)", x.cube(0, 0, Integer.MAX_VALUE), -6);
    due.is("count(14)", x.count(14), 10);
    due.is("count(16)", x.count(16), 7);
    due.is("count(13)", x.count(13), 1);
  }

  /** Every product of lesser polynomials, and nothing else, is refused. */
  private static void products() {
    boolean[][] square = new boolean[41][401];
    for (int s = -250; s <= 250; s++) {
      for (int t = -250; t <= 250; t++) {
        if (Math.abs(s + t) <= 20 && Math.abs(s * t) <= 200) {
          square[s + t + 20][s * t + 200] = true;
        }
      }
    }
    for (int a = -20; a <= 20; a++) {
      FieldHouse x = new FieldHouse();
      for (int b = -200; b <= 200; b++) {
        due.is("square(" + a + ", " + b + ")", x.square(a, b), square[a + 20][b + 200] ? -3 : 1);
      }
    }
    boolean[][][] cube = new boolean[7][19][19];
    for (int s = -9; s <= 9; s++) {
      for (int t = -12; t <= 12; t++) {
        for (int u = -120; u <= 120; u++) {
          int a = s + t;
          int b = s * t + u;
          int c = s * u;
          if (Math.abs(a) <= 3 && Math.abs(b) <= 9 && Math.abs(c) <= 9) {
            cube[a + 3][b + 9][c + 9] = true;
          }
        }
      }
    }
    for (int a = -3; a <= 3; a++) {
      FieldHouse x = new FieldHouse();
      for (int b = -9; b <= 9; b++) {
        for (int c = -9; c <= 9; c++) {
          due.is("cube(" + a + ", " + b + ", " + c + ")", x.cube(a, b, c), cube[a + 3][b + 9][c + 9] ? -3 : 1);
        }
      }
    }
  }

  private static void newFieldEmptiesTheHouse() {
    FieldHouse x = Due.square(0, 5);
    x.element(1, 1, 0);
    x.ideal(2, 0);
    x.field(9);
    due.is("classes of -20", x.classes(), 2);
    due.is("primes(3) of -20", x.primes(3), 2);
    due.is("cube after square", x.cube(0, 0, -2), 1);
    due.is("no elements", x.count(0), 0);
    due.is("no ideals", x.count(1), 0);
    due.is("refusals stay", x.count(12), 1);
    due.is("element 0 is gone", x.unit(0), -1);
    due.is("ideal 0 is gone", x.idealOf(0, 0), -1);
    due.is("primes(3) anew", x.primes(3), 1);
    due.is("square after cube", x.square(1, 41), 1);
    due.is("classes anew", x.classes(), 1);
    due.is("table anew, third place", x.table(1, 1, 2), Due.TOLD + 1);
    due.is("primes(3) once more", x.primes(3), 1);
    due.is("its degree", x.prime(3, 0, 1), 2);
  }

  private static void refusedFieldKeepsTheOld() {
    FieldHouse x = Due.square(0, 5);
    x.element(1, 1, 0);
    x.ideal(2, 0);
    x.square(2, 1);
    x.square(99, 0);
    x.cube(-4, 0, 0);
    x.cube(0, 0, 8);
    due.is("disc stays", x.disc(0), -20);
    due.is("elements stay", x.count(0), 1);
    due.is("ideals stay", x.count(1), 1);
    due.is("norm stays", x.idealOf(0, 0), 2);
  }

  private static void numbersOfFields() {
    numbers(Due.square(0, 5), new long[] {2, 1, 0, 0, -20, -20});
    numbers(Due.square(-1, -1), new long[] {2, 1, 2, 1, 5, 5});
    numbers(Due.square(0, 75), new long[] {2, 10, 0, 0, -3, -300});
    numbers(Due.square(20, -200), new long[] {2, 10, 2, 1, 12, 1200});
    numbers(Due.square(1, 41), new long[] {2, 1, 0, 0, -163, -163});
    numbers(Due.cube(-1, -2, -8), new long[] {3, 2, 1, 1, -503, -2012});
    numbers(Due.cube(0, 0, -2), new long[] {3, 1, 1, 1, -108, -108});
    numbers(Due.cube(-1, -2, 1), new long[] {3, 1, 3, 2, 49, 49});
    numbers(Due.cube(0, -4, 8), new long[] {3, 8, 1, 1, -23, -1472});
    basisIs(Due.square(0, 5), new int[] {1, 0, 1, 0, 1, 1});
    basisIs(Due.square(0, 75), new int[] {1, 0, 1, 5, 1, 10});
    basisIs(Due.cube(-1, -2, -8), new int[] {1, 0, 0, 1, 0, 1, 0, 1, 0, 1, 1, 2});
    basisIs(Due.cube(0, -4, 8), new int[] {1, 0, 0, 1, 0, 1, 0, 2, 0, 0, 1, 4});
  }

  private static void numbers(FieldHouse x, long[] want) {
    for (int what = 0; what < 4; what++) {
      due.is("field(" + what + ")", x.field(what), want[what]);
    }
    due.is("disc(0)", x.disc(0), want[4]);
    due.is("disc(1)", x.disc(1), want[5]);
    due.is("field(4)", x.field(4), -2);
    due.is("field(-1)", x.field(-1), -2);
    due.is("disc(2)", x.disc(2), Due.TOLD_LONG + 2);
    due.is("disc(-1)", x.disc(-1), Due.TOLD_LONG + 2);
    due.is("count(12)", x.count(12), 4);
  }

  private static void basisIs(FieldHouse x, int[] want) {
    int n = x.field(0);
    for (int i = 0; i < n; i++) {
      for (int j = 0; j <= n; j++) {
        due.is("basis(" + i + ", " + j + ")", x.basis(i, j), want[i * (n + 1) + j]);
      }
    }
    due.is("basis(n, 0)", x.basis(n, 0), -1);
    due.is("basis(-1, 0)", x.basis(-1, 0), -1);
    due.is("basis(0, n + 1)", x.basis(0, n + 1), -1);
    due.is("basis(0, -1)", x.basis(0, -1), -1);
    due.is("table(n, 0, 0)", x.table(n, 0, 0), Due.TOLD + 1);
    due.is("table(0, n, 0)", x.table(0, n, 0), Due.TOLD + 1);
    due.is("table(0, 0, n)", x.table(0, 0, n), Due.TOLD + 1);
    due.is("table(-1, 0, 0)", x.table(-1, 0, 0), Due.TOLD + 1);
    due.is("table(0, -1, 0)", x.table(0, -1, 0), Due.TOLD + 1);
    due.is("table(0, 0, -1)", x.table(0, 0, -1), Due.TOLD + 1);
    due.is("count(11)", x.count(11), 10);
  }

  private static void allSquares() {
    for (int a = -20; a <= 20; a++) {
      for (int b = -200; b <= 200; b++) {
        FieldHouse x = new FieldHouse();
        if (x.square(a, b) == 1) {
          squareLaws(x, a, b);
        }
      }
    }
  }

  /** The discriminant cannot be made less by a square, and w1 is whole by its trace and norm. */
  private static void squareLaws(FieldHouse x, int a, int b) {
    String field = "square(" + a + ", " + b + ") ";
    long disc = x.disc(0);
    long h = x.basis(1, 0);
    long d = x.basis(1, 2);
    due.is(field + "disc(1)", x.disc(1), (long) a * a - 4L * b);
    due.is(field + "disc by index", disc * d * d, x.disc(1));
    due.is(field + "index", x.field(1), d);
    due.holds(field + "h", h >= 0 && h < d);
    for (int q = 2; q * q <= Math.abs(disc); q++) {
      boolean lesser = disc % (q * q) == 0 && Math.floorMod(disc / (q * q), 4L) <= 1;
      due.holds(field + "disc is the field's", !lesser);
    }
    due.is(field + "trace of w1", x.table(1, 1, 1) * d, 2 * h - a);
    due.is(field + "norm of w1", -x.table(1, 1, 0) * d * d, h * h - a * h + b);
    due.is(field + "table(0, 1, 1)", x.table(0, 1, 1), 1);
    due.is(field + "table(1, 0, 0)", x.table(1, 0, 0), 0);
    due.is(field + "reals", x.field(2), disc > 0 ? 2 : 0);
    due.is(field + "rank", x.field(3), disc > 0 ? 1 : 0);
  }

  private static void allCubes() {
    for (int a = -3; a <= 3; a++) {
      for (int b = -9; b <= 9; b++) {
        for (int c = -9; c <= 9; c++) {
          FieldHouse x = new FieldHouse();
          if (x.cube(a, b, c) == 1) {
            cubeLaws(x, a, b, c);
          }
        }
      }
    }
  }

  /** The table makes a ring (so all in it is whole), and for no prime number are there whole numbers between. */
  private static void cubeLaws(FieldHouse x, int a, int b, int c) {
    String field = "cube(" + a + ", " + b + ", " + c + ") ";
    long d = x.basis(1, 3);
    long e = x.basis(2, 3);
    long h = x.basis(1, 0);
    long k = x.basis(2, 0);
    long l = x.basis(2, 1);
    due.holds(field + "h, k, l", h >= 0 && h < d && k >= 0 && k < e && l >= 0 && l * d < e);
    due.is(field + "index", x.field(1), d * e);
    due.is(field + "disc", x.disc(0) * d * e * d * e, x.disc(1));
    long[][][] table = new long[3][3][3];
    for (int i = 0; i < 27; i++) {
      table[i / 9][i / 3 % 3][i % 3] = x.table(i / 9, i / 3 % 3, i % 3);
    }
    long[][] basis = new long[3][4];
    for (int i = 0; i < 12; i++) {
      basis[i / 4][i % 4] = x.basis(i / 4, i % 4);
    }
    tableFitsTheField(field, basis, table, new long[] {c, b, a});
    for (int q = 2; (long) q * q <= Math.abs(x.disc(0)); q++) {
      if (isPrime(q) && x.disc(0) % ((long) q * q) == 0) {
        due.holds(field + "nothing whole between, by " + q, !wholeBetween(table, q));
      }
    }
  }

  /** Each product told by the basis is the product of fractions modulo the polynomial. */
  private static void tableFitsTheField(String field, long[][] basis, long[][][] table, long[] poly) {
    long below = 1;
    for (int i = 0; i < 3; i++) {
      below *= basis[i][3];
    }
    for (int i = 0; i < 3; i++) {
      for (int j = 0; j < 3; j++) {
        long[] wide = new long[5];
        for (int s = 0; s < 3; s++) {
          for (int t = 0; t < 3; t++) {
            wide[s + t] += basis[i][s] * (below / basis[i][3]) * basis[j][t] * (below / basis[j][3]);
          }
        }
        for (int t = 4; t >= 3; t--) {
          for (int s = 0; s < 3; s++) {
            wide[t - 3 + s] -= wide[t] * poly[s];
          }
        }
        for (int s = 0; s < 3; s++) {
          long sum = 0;
          for (int m = 0; m < 3; m++) {
            sum += table[i][j][m] * basis[m][s] * (below / basis[m][3]) * below;
          }
          due.is(field + "w" + i + " w" + j + " at r to the " + s, sum, wide[s]);
        }
      }
    }
  }

  /** Whether a sum of 0 .. q - 1 times the basis, by q, is whole: its polynomial has whole coefficients. */
  private static boolean wholeBetween(long[][][] table, int q) {
    for (int i = 1; i < q * q * q; i++) {
      long[] u = {i % q, i / q % q, i / q / q};
      long[][] m = new long[3][3];
      for (int s = 0; s < 3; s++) {
        for (int j = 0; j < 3; j++) {
          for (int k = 0; k < 3; k++) {
            m[j][k] += u[s] * table[s][j][k];
          }
        }
      }
      long trace = m[0][0] + m[1][1] + m[2][2];
      long middle = m[0][0] * m[1][1] - m[0][1] * m[1][0] + m[0][0] * m[2][2] - m[0][2] * m[2][0]
          + m[1][1] * m[2][2] - m[1][2] * m[2][1];
      long norm = m[0][0] * (m[1][1] * m[2][2] - m[1][2] * m[2][1])
          - m[0][1] * (m[1][0] * m[2][2] - m[1][2] * m[2][0]) + m[0][2] * (m[1][0] * m[2][1] - m[1][1] * m[2][0]);
      if (trace % q == 0 && middle % ((long) q * q) == 0 && norm % ((long) q * q * q) == 0) {
        return true;
      }
    }
    return false;
  }

  private static boolean isPrime(int q) {
    for (int d = 2; d * d <= q; d++) {
      if (q % d == 0) {
        return false;
      }
    }
    return true;
  }
}
