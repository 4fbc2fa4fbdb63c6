import java.math.BigInteger;
import java.util.ArrayList;
import java.util.List;
import java.util.Random;

/** Promises 8 to 12: element, make, coordinate, norm, unit. */
public final class ElementTest {
  private static final Due due = new Due();

  public static void main(String[] args) {
    limitsOfSquare();
    limitsOfCube();
    fullHouse();
    ordinary();
    refusalsOfMake();
    units();
    for (int seed = 0; seed < 300; seed++) {
      laws(seed);
    }
    due.end();
  }

  private static void limitsOfSquare() {
    FieldHouse x = new FieldHouse();
    due.is("no field: element(999, 999, 999)", x.element(999, 999, 999), -3);
    x.square(0, 5);
    due.is("element(300, -300, 0)", x.element(300, -300, 0), 0);
    due.is("element(-300, 300, 0)", x.element(-300, 300, 0), 1);
    due.is("element(0, 0, 1)", x.element(0, 0, 1), -1);
    due.is("element(-301, 301, -1): -1 is told first", x.element(-301, 301, -1), -1);
    due.is("element(-301, 301, 0): -4 is told first", x.element(-301, 301, 0), -4);
    due.is("element(301, -301, 0): -4 is told first", x.element(301, -301, 0), -4);
    due.is("element(301, 0, 0)", x.element(301, 0, 0), -6);
    due.is("element(0, 301, 0)", x.element(0, 301, 0), -6);
    due.is("element(least)", x.element(Integer.MIN_VALUE, 0, 0), -4);
    due.is("count(0)", x.count(0), 2);
    due.is("coordinate(0, 0)", x.coordinate(0, 0), 300);
    due.is("coordinate(0, 1)", x.coordinate(0, 1), -300);
    due.is("coordinate(0, 2): no such place", x.coordinate(0, 2), Due.TOLD + 1);
    due.is("coordinate(0, -1)", x.coordinate(0, -1), Due.TOLD + 1);
    due.is("coordinate(2, 0)", x.coordinate(2, 0), Due.TOLD + 1);
    due.is("coordinate(-1, 0)", x.coordinate(-1, 0), Due.TOLD + 1);
  }

  private static void limitsOfCube() {
    FieldHouse x = Due.cube(0, 0, -2);
    due.is("element(0, 0, -300)", x.element(0, 0, -300), 0);
    due.is("element(0, 0, 300)", x.element(0, 0, 300), 1);
    due.is("element(0, 0, -301)", x.element(0, 0, -301), -4);
    due.is("element(0, 0, 301)", x.element(0, 0, 301), -6);
    due.is("element(301, 0, -301): -4 is told first", x.element(301, 0, -301), -4);
    due.is("coordinate(0, 2)", x.coordinate(0, 2), -300);
    due.is("coordinate(0, 3)", x.coordinate(0, 3), Due.TOLD + 1);
  }

  private static void fullHouse() {
    FieldHouse x = Due.square(0, 1);
    for (int i = 0; i < 100; i++) {
      due.is("element " + i, x.element(i, 3, 0), i);
    }
    due.is("element 100", x.element(0, 0, 0), -6);
    due.is("element 100, c", x.element(0, 0, 1), -1);
    due.is("element 100, below", x.element(-301, 0, 0), -4);
    due.is("make 100", x.make(0, 0, 1), -6);
    due.is("make 100, other", x.make(5, 0, 1), -2);
    due.is("make 100, not whole", x.make(3, 1, 2), -3);
    due.is("make 100, a difference", x.make(1, 0, 99), -6);
    due.is("coordinate(99, 0)", x.coordinate(99, 0), 99);
    due.is("count(0)", x.count(0), 100);
    x.square(0, 2);
    due.is("a new field has room again", x.element(0, 0, 0), 0);
  }

  private static void ordinary() {
    FieldHouse x = Due.cube(-1, -2, -8);
    x.element(2, -3, 5);
    x.element(-1, 4, 2);
    due.is("sum", x.make(0, 0, 1), 2);
    coordinatesAre(x, 2, 1, 1, 7);
    due.is("difference", x.make(1, 0, 1), 3);
    coordinatesAre(x, 3, 3, -7, 3);
    due.is("product", x.make(2, 0, 1), 4);
    due.is("part by the second", x.make(3, 4, 1), 5);
    coordinatesAre(x, 5, 2, -3, 5);
    due.is("part by the first", x.make(3, 4, 0), 6);
    coordinatesAre(x, 6, -1, 4, 2);
    due.is("norm(0, 3)", x.norm(0, 3), Due.TOLD_LONG + 2);
    due.is("norm(0, -1)", x.norm(0, -1), Due.TOLD_LONG + 2);
    due.is("norm(7, 0)", x.norm(7, 0), Due.TOLD_LONG + 1);
    due.is("norm(-1, 9): -1 is told first", x.norm(-1, 9), Due.TOLD_LONG + 1);
    due.is("norm of the product", x.norm(4, 0), x.norm(0, 0) * x.norm(1, 0));
    FieldHouse y = Due.square(-1, -1);
    y.element(3, 4, 0);
    due.is("norm", y.norm(0, 0), 9 + 12 - 16);
    due.is("trace", y.norm(0, 1), 10);
    due.is("coefficient of x", y.norm(0, 2), -10);
  }

  private static void coordinatesAre(FieldHouse x, int i, int a, int b, int c) {
    due.is("coordinate(" + i + ", 0)", x.coordinate(i, 0), a);
    due.is("coordinate(" + i + ", 1)", x.coordinate(i, 1), b);
    due.is("coordinate(" + i + ", 2)", x.coordinate(i, 2), c);
  }

  private static void refusalsOfMake() {
    FieldHouse x = new FieldHouse();
    due.is("no field", x.make(9, 9, 9), -3);
    x.square(0, 5);
    x.element(300, 0, 0);
    x.element(-300, 1, 0);
    x.element(0, 0, 0);
    x.element(0, 300, 0);
    due.is("no such first", x.make(9, 4, 0), -1);
    due.is("no such second", x.make(9, 0, -1), -1);
    due.is("other", x.make(4, 0, 0), -2);
    due.is("other below", x.make(-1, 0, 0), -2);
    due.is("by 0", x.make(3, 0, 2), -3);
    due.is("0 by 0", x.make(3, 2, 2), -3);
    due.is("not whole", x.make(3, 1, 0), -3);
    due.is("above", x.make(0, 0, 0), -6);
    due.is("below", x.make(1, 1, 0), -4);
    due.is("product below", x.make(2, 3, 3), -4);
    x.element(-20, 20, 0);
    due.is("difference above", x.make(1, 0, 1), -6);
    x.element(1, -300, 0);
    x.element(-1, -1, 0);
    due.is("below at place 1 alone", x.make(0, 5, 6), -4);
    due.is("0 by a number", x.make(3, 2, 0), 7);
    x.element(-20, 0, 0);
    due.is("above at place 0, below at place 1: -4 is told first", x.make(2, 4, 8), -4);
    due.is("count(0)", x.count(0), 9);
  }

  private static void units() {
    FieldHouse i = Due.square(0, 1);
    i.element(0, 1, 0);
    i.element(1, 0, 0);
    i.element(1, 1, 0);
    i.element(0, 0, 0);
    due.is("root of -1", i.unit(0), 2);
    due.is("1", i.unit(1), 2);
    due.is("norm 2", i.unit(2), 0);
    due.is("0", i.unit(3), 0);
    due.is("no such", i.unit(4), -1);
    due.is("no such below", i.unit(-1), -1);
    FieldHouse sixth = Due.square(1, 1);
    sixth.element(0, 1, 0);
    sixth.element(1, 1, 0);
    due.is("third root of 1", sixth.unit(0), 2);
    due.is("sixth root of 1", sixth.unit(1), 2);
    FieldHouse far = Due.square(20, 101);
    far.element(10, 1, 0);
    due.is("root of -1, far basis", far.unit(0), 2);
    FieldHouse real = Due.square(0, -2);
    real.element(1, 1, 0);
    real.element(-1, 0, 0);
    real.element(99, 70, 0);
    due.is("1 and root of 2", real.unit(0), 1);
    due.is("-1", real.unit(1), 2);
    due.is("a power", real.unit(2), 1);
    due.is("no field", new FieldHouse().unit(0), -3);
    FieldHouse cube = Due.cube(0, 0, -2);
    cube.element(-1, 1, 0);
    cube.element(-1, 0, 0);
    cube.element(2, 0, 0);
    due.is("root of 2 less 1", cube.unit(0), 1);
    due.is("-1 of a cube", cube.unit(1), 2);
    due.is("2 of a cube", cube.unit(2), 0);
  }

  /** Sums, products, parts against matrices with the field's table; norms against their determinants. */
  private static void laws(int seed) {
    Random random = new Random(seed);
    FieldHouse x = new FieldHouse();
    boolean cubic = random.nextBoolean();
    int made = 0;
    for (int tries = 0; tries < 20 && made != 1; tries++) {
      made = cubic ? x.cube(random.nextInt(7) - 3, random.nextInt(19) - 9, random.nextInt(19) - 9)
          : x.square(random.nextInt(41) - 20, random.nextInt(401) - 200);
    }
    Seen seen = new Seen(x);
    int[] bound = {2, 2, 2, 10, 10, 300, 300, 300};
    for (int most : bound) {
      x.element(random.nextInt(2 * most + 1) - most, random.nextInt(2 * most + 1) - most,
          seen.n == 2 ? 0 : random.nextInt(2 * most + 1) - most);
      seen.read();
    }
    for (int i = 0; i < 8; i++) {
      lawOfNorms(seen, i);
    }
    for (int t = 0; t < 40; t++) {
      lawOfMake(seen, random.nextInt(4), random.nextInt(seen.coordinates.size()),
          random.nextInt(seen.coordinates.size()));
    }
  }

  /** A house's table and elements, each read once, as its calls are numbered. */
  private static final class Seen {
    final FieldHouse x;
    final int n;
    final long[][][] table = new long[3][3][3];
    final List<BigInteger[]> coordinates = new ArrayList<>();

    Seen(FieldHouse x) {
      this.x = x;
      n = x.field(0);
      for (int i = 0; i < n * n * n; i++) {
        table[i / n / n][i / n % n][i % n] = x.table(i / n / n, i / n % n, i % n);
      }
    }

    void read() {
      BigInteger[] element = new BigInteger[n];
      for (int k = 0; k < n; k++) {
        element[k] = BigInteger.valueOf(x.coordinate(coordinates.size(), k));
      }
      coordinates.add(element);
    }

    /** Row j is the element times w j, so row 0 is the element. */
    BigInteger[][] matrix(int i) {
      BigInteger[][] m = new BigInteger[n][n];
      for (int j = 0; j < n; j++) {
        for (int k = 0; k < n; k++) {
          m[j][k] = BigInteger.ZERO;
          for (int s = 0; s < n; s++) {
            m[j][k] = m[j][k].add(coordinates.get(i)[s].multiply(BigInteger.valueOf(table[s][j][k])));
          }
        }
      }
      return m;
    }
  }

  private static void lawOfNorms(Seen seen, int i) {
    FieldHouse x = seen.x;
    BigInteger[][] m = seen.matrix(i);
    due.is("norm " + i, x.norm(i, 0), determinant(m).longValueExact());
    due.is("trace " + i, x.norm(i, 1), trace(m).longValueExact());
    BigInteger middle = seen.n == 2 ? trace(m).negate()
        : trace(m).multiply(trace(m)).subtract(trace(times(m, m))).shiftRight(1);
    due.is("middle " + i, x.norm(i, 2), middle.longValueExact());
    due.is("unit " + i, x.unit(i), unitBy(m));
  }

  private static int unitBy(BigInteger[][] m) {
    if (!determinant(m).abs().equals(BigInteger.ONE)) {
      return 0;
    }
    BigInteger[][] power = m;
    for (int k = 1; k <= 12; k++) {
      boolean one = true;
      for (int i = 0; i < m.length; i++) {
        for (int j = 0; j < m.length; j++) {
          one &= power[i][j].equals(i == j ? BigInteger.ONE : BigInteger.ZERO);
        }
      }
      if (one) {
        return 2;
      }
      power = times(power, m);
    }
    return 1;
  }

  private static void lawOfMake(Seen seen, int how, int i, int j) {
    String call = "make(" + how + ", " + i + ", " + j + ")";
    BigInteger[] want = made(seen, how, i, j);
    int code = want == null ? -3 : seen.coordinates.size();
    for (int k = 0; want != null && k < seen.n; k++) {
      code = want[k].intValueExact() > 300 && code != -4 ? -6 : code;
      code = want[k].intValueExact() < -300 ? -4 : code;
    }
    due.is(call, seen.x.make(how, i, j), code);
    if (code >= 0) {
      seen.read();
      for (int k = 0; k < seen.n; k++) {
        due.is(call + " at " + k, seen.coordinates.get(code)[k].longValueExact(), want[k].longValueExact());
      }
    }
  }

  /** The coordinates that are due, or null if there is no such whole number. */
  private static BigInteger[] made(Seen seen, int how, int i, int j) {
    if (how == 2) {
      return times(seen.matrix(i), seen.matrix(j))[0];
    }
    BigInteger[] made = new BigInteger[seen.n];
    BigInteger below = determinant(seen.matrix(j));
    for (int k = 0; k < seen.n; k++) {
      BigInteger a = seen.coordinates.get(i)[k];
      BigInteger b = seen.coordinates.get(j)[k];
      made[k] = how == 0 ? a.add(b) : a.subtract(b);
      if (how == 3) {
        BigInteger[][] replaced = seen.matrix(j);
        replaced[k] = seen.coordinates.get(i);
        if (below.signum() == 0 || determinant(replaced).mod(below.abs()).signum() != 0) {
          return null;
        }
        made[k] = determinant(replaced).divide(below);
      }
    }
    return made;
  }

  private static BigInteger[][] times(BigInteger[][] a, BigInteger[][] b) {
    int n = a.length;
    BigInteger[][] c = new BigInteger[n][n];
    for (int i = 0; i < n; i++) {
      for (int j = 0; j < n; j++) {
        c[i][j] = BigInteger.ZERO;
        for (int k = 0; k < n; k++) {
          c[i][j] = c[i][j].add(a[i][k].multiply(b[k][j]));
        }
      }
    }
    return c;
  }

  private static BigInteger trace(BigInteger[][] m) {
    BigInteger sum = BigInteger.ZERO;
    for (int i = 0; i < m.length; i++) {
      sum = sum.add(m[i][i]);
    }
    return sum;
  }

  private static BigInteger determinant(BigInteger[][] m) {
    if (m.length == 2) {
      return m[0][0].multiply(m[1][1]).subtract(m[0][1].multiply(m[1][0]));
    }
    BigInteger sum = BigInteger.ZERO;
    for (int j = 0; j < 3; j++) {
      BigInteger minor = m[1][(j + 1) % 3].multiply(m[2][(j + 2) % 3])
          .subtract(m[1][(j + 2) % 3].multiply(m[2][(j + 1) % 3]));
      sum = sum.add(m[0][j].multiply(minor));
    }
    return sum;
  }
}
