import java.util.Arrays;

/**
 * A house of number fields of degree 2 and 3: one field at a time, with numbered elements and ideals of it.
 * All room is made once, in the constructors, because a run's calls share what may ever be made.
 */
public final class FieldHouse {
  private static final int NOBODY = -1;
  private static final int OTHER = -2;
  private static final int STATE = -3;
  private static final int BELOW = -4;
  private static final int ROOM = -6;
  private static final int NO_SUCH_COUNT = -9;
  private static final int TOLD = 2000000000;
  private static final long TOLD_LONG = 4000000000000000000L;

  private static final int MOST_ELEMENTS = 100;
  private static final int MOST_IDEALS = 80;
  private static final int MOST_COORDINATE = 300;
  private static final long MOST_NORM = 1000000;
  private static final int MOST_PRIME = 97;
  private static final int MOST_POWER = 12;

  /** Far above the steps of every loop that ends by itself: Euclid's way, going to reduced forms, small roots. */
  private static final int MANY_STEPS = 1000;

  private final int[] refusals = new int[7];
  private final long[] coordinates = new long[3 * MOST_ELEMENTS];
  private final long[] rows = new long[9 * MOST_IDEALS];
  private final Ring ring;
  private final IdealWorks works;
  private final Splitting splitting;
  private final Forms forms;
  private final FirstUnit firstUnit;
  private int elements;
  private int ideals;

  public FieldHouse() {
    ring = new Ring();
    works = new IdealWorks(ring);
    splitting = new Splitting(ring, works);
    forms = new Forms(ring, works);
    firstUnit = new FirstUnit();
  }

  public int square(int a, int b) {
    if (a < -20 || b < -200) {
      return refused(BELOW);
    }
    if (a > 20 || b > 200) {
      return refused(ROOM);
    }
    if (isPerfectSquare((long) a * a - 4L * b)) {
      return refused(STATE);
    }
    ring.openSquare(a, b);
    return emptyHouse();
  }

  public int cube(int a, int b, int c) {
    if (a < -3 || b < -9 || c < -9) {
      return refused(BELOW);
    }
    if (a > 3 || b > 9 || c > 9) {
      return refused(ROOM);
    }
    if (hasWholeRoot(a, b, c)) {
      return refused(STATE);
    }
    ring.openCube(a, b, c);
    return emptyHouse();
  }

  public int field(int what) {
    if (ring.degree == 0) {
      return refused(STATE);
    }
    switch (what) {
      case 0:
        return ring.degree;
      case 1:
        return (int) ring.index;
      case 2:
        return ring.realRoots();
      case 3:
        return ring.realRoots() + (ring.degree - ring.realRoots()) / 2 - 1;
      default:
        return refused(OTHER);
    }
  }

  public long disc(int what) {
    if (ring.degree == 0) {
      return toldLong(STATE);
    }
    if (what != 0 && what != 1) {
      return toldLong(OTHER);
    }
    return what == 0 ? ring.fieldDisc : ring.polyDisc;
  }

  public int basis(int i, int j) {
    if (ring.degree == 0) {
      return refused(STATE);
    }
    if (!isPlace(i) || j < 0 || j > ring.degree) {
      return refused(NOBODY);
    }
    return (int) (j == ring.degree ? ring.lower[i] : ring.upper[3 * i + j]);
  }

  public int table(int i, int j, int k) {
    if (ring.degree == 0) {
      return told(STATE);
    }
    if (!isPlace(i) || !isPlace(j) || !isPlace(k)) {
      return told(NOBODY);
    }
    return (int) ring.products[9 * i + 3 * j + k];
  }

  public int element(int a, int b, int c) {
    if (ring.degree == 0) {
      return refused(STATE);
    }
    if (ring.degree == 2 && c != 0) {
      return refused(NOBODY);
    }
    ring.answer[0] = a;
    ring.answer[1] = b;
    ring.answer[2] = c;
    return keepElement();
  }

  public int make(int how, int i, int j) {
    if (ring.degree == 0) {
      return refused(STATE);
    }
    if (!isElement(i) || !isElement(j)) {
      return refused(NOBODY);
    }
    if (how < 0 || how > 3) {
      return refused(OTHER);
    }
    if (how == 3 && !ring.divide(coordinates, 3 * i, 3 * j)) {
      return refused(STATE);
    }
    if (how == 2) {
      ring.multiply(coordinates, 3 * i, coordinates, 3 * j);
    }
    if (how < 2) {
      ring.addTimes(coordinates, 3 * i, 3 * j, how == 0 ? 1 : -1);
    }
    return keepElement();
  }

  public int coordinate(int i, int k) {
    if (ring.degree == 0) {
      return told(STATE);
    }
    if (!isElement(i) || !isPlace(k)) {
      return told(NOBODY);
    }
    return (int) coordinates[3 * i + k];
  }

  public long norm(int i, int what) {
    if (ring.degree == 0) {
      return toldLong(STATE);
    }
    if (!isElement(i)) {
      return toldLong(NOBODY);
    }
    if (what < 0 || what > 2) {
      return toldLong(OTHER);
    }
    ring.matrixOf(coordinates, 3 * i);
    if (what == 0) {
      return ring.matrixNorm();
    }
    return what == 1 ? ring.matrixTrace() : ring.matrixMiddle();
  }

  public int unit(int i) {
    if (ring.degree == 0) {
      return refused(STATE);
    }
    if (!isElement(i)) {
      return refused(NOBODY);
    }
    ring.matrixOf(coordinates, 3 * i);
    long value = ring.matrixNorm();
    if (value != 1 && value != -1) {
      return 0;
    }
    return ring.hasPowerOne(coordinates, 3 * i) ? 2 : 1;
  }

  public int ideal(int m, int i) {
    if (ring.degree == 0) {
      return refused(STATE);
    }
    if (!isElement(i)) {
      return refused(NOBODY);
    }
    if (m < 1) {
      return refused(BELOW);
    }
    if (m > MOST_NORM) {
      return refused(ROOM);
    }
    works.makeLeast(m, coordinates, 3 * i);
    return keepIdeal();
  }

  public int join(int how, int i, int j) {
    if (ring.degree == 0) {
      return refused(STATE);
    }
    if (!isIdeal(i) || !isIdeal(j)) {
      return refused(NOBODY);
    }
    if (how < 0 || how > 2) {
      return refused(OTHER);
    }
    if (how == 2 && !works.hasAll(rows, 9 * j, rows, 9 * i)) {
      return refused(STATE);
    }
    // A product beyond the norm's limit is not worked out: its numbers would not fit.
    if (how == 1 && normOfRows(rows, 9 * i) * normOfRows(rows, 9 * j) > MOST_NORM) {
      return refused(ROOM);
    }
    if (how == 0) {
      works.makeSum(rows, 9 * i, rows, 9 * j);
    } else if (how == 1) {
      works.makeProduct(rows, 9 * i, rows, 9 * j);
    } else {
      works.makeQuotient(rows, 9 * i, rows, 9 * j);
    }
    return keepIdeal();
  }

  public int row(int i, int k, int j) {
    if (ring.degree == 0) {
      return refused(STATE);
    }
    if (!isIdeal(i) || !isPlace(k) || !isPlace(j)) {
      return refused(NOBODY);
    }
    return (int) rows[9 * i + 3 * k + j];
  }

  public int idealOf(int i, int what) {
    if (ring.degree == 0) {
      return refused(STATE);
    }
    if (!isIdeal(i)) {
      return refused(NOBODY);
    }
    switch (what) {
      case 0:
        return (int) normOfRows(rows, 9 * i);
      case 1:
        return (int) rows[9 * i];
      case 2:
        return splitting.isPrimeIdeal(rows, 9 * i) ? 1 : 0;
      default:
        return refused(OTHER);
    }
  }

  public int in(int i, int element) {
    if (ring.degree == 0) {
      return refused(STATE);
    }
    if (!isIdeal(i) || !isElement(element)) {
      return refused(NOBODY);
    }
    return works.has(rows, 9 * i, coordinates, 3 * element) ? 1 : 0;
  }

  public int divides(int i, int j) {
    if (ring.degree == 0) {
      return refused(STATE);
    }
    if (!isIdeal(i) || !isIdeal(j)) {
      return refused(NOBODY);
    }
    return works.hasAll(rows, 9 * i, rows, 9 * j) ? 1 : 0;
  }

  public int primes(int p) {
    if (ring.degree == 0) {
      return refused(STATE);
    }
    if (!isSmallPrime(p)) {
      return refused(NOBODY);
    }
    splitting.split(p);
    return splitting.number;
  }

  public int prime(int p, int k, int what) {
    if (ring.degree == 0) {
      return refused(STATE);
    }
    if (!hasPrime(p, k)) {
      return refused(NOBODY);
    }
    int n = ring.degree;
    if (what < 0 || what > 1 + n * n) {
      return refused(OTHER);
    }
    if (what == 0) {
      return splitting.exponents[k];
    }
    if (what == 1) {
      return splitting.degrees[k];
    }
    int place = what - 2;
    return (int) splitting.rows[9 * k + 3 * (place / n) + place % n];
  }

  public int take(int p, int k) {
    if (ring.degree == 0) {
      return refused(STATE);
    }
    if (!hasPrime(p, k)) {
      return refused(NOBODY);
    }
    works.makeCopy(splitting.rows, 9 * k);
    return keepIdeal();
  }

  public int times(int ideal, int p, int k) {
    if (ring.degree == 0) {
      return refused(STATE);
    }
    if (!isIdeal(ideal) || !hasPrime(p, k)) {
      return refused(NOBODY);
    }
    return works.timesIn(splitting.rows, 9 * k, rows, 9 * ideal);
  }

  public int classes() {
    if (ring.degree == 0) {
      return refused(STATE);
    }
    if (ring.degree != 2) {
      return refused(OTHER);
    }
    forms.list();
    return forms.classNumber;
  }

  public int form(int k, int what) {
    if (ring.degree == 0) {
      return told(STATE);
    }
    if (ring.degree != 2 || what < 0 || what > 2) {
      return told(OTHER);
    }
    forms.list();
    if (k < 0 || k >= forms.number) {
      return told(NOBODY);
    }
    return forms.listed[3 * k + what];
  }

  public int classOf(int ideal) {
    if (ring.degree == 0) {
      return refused(STATE);
    }
    if (ring.degree != 2) {
      return refused(OTHER);
    }
    if (!isIdeal(ideal)) {
      return refused(NOBODY);
    }
    forms.list();
    return forms.classOfRows(rows, 9 * ideal);
  }

  public int order(int ideal) {
    if (ring.degree == 0) {
      return refused(STATE);
    }
    if (ring.degree != 2) {
      return refused(OTHER);
    }
    if (!isIdeal(ideal)) {
      return refused(NOBODY);
    }
    forms.list();
    return forms.orderOfRows(rows, 9 * ideal);
  }

  public long first(int what) {
    if (ring.degree == 0) {
      return toldLong(STATE);
    }
    if (ring.degree != 2 || ring.fieldDisc < 0 || what < 0 || what > 2) {
      return toldLong(OTHER);
    }
    if (!firstUnit.find(ring.fieldDisc, ring.traceOfSecond())) {
      return toldLong(ROOM);
    }
    if (what == 2) {
      return firstUnit.sign;
    }
    return what == 0 ? firstUnit.atOne : firstUnit.atSecond;
  }

  public int count(int what) {
    if (what == 0) {
      return elements;
    }
    if (what == 1) {
      return ideals;
    }
    if (what >= 11 && what <= 16) {
      return refusals[what - 10];
    }
    return NO_SUCH_COUNT;
  }

  private int refused(int code) {
    refusals[-code]++;
    return code;
  }

  private int told(int code) {
    return TOLD - refused(code);
  }

  private long toldLong(int code) {
    return TOLD_LONG - refused(code);
  }

  private int emptyHouse() {
    elements = 0;
    ideals = 0;
    splitting.forget();
    forms.forget();
    return 1;
  }

  private boolean isPlace(int i) {
    return i >= 0 && i < ring.degree;
  }

  private boolean isElement(int i) {
    return i >= 0 && i < elements;
  }

  private boolean isIdeal(int i) {
    return i >= 0 && i < ideals;
  }

  private boolean hasPrime(int p, int k) {
    if (!isSmallPrime(p)) {
      return false;
    }
    splitting.split(p);
    return k >= 0 && k < splitting.number;
  }

  /** Keeps the ring's answer as a new element, if its coordinates and the room allow it. */
  private int keepElement() {
    for (int k = 0; k < 3; k++) {
      if (ring.answer[k] < -MOST_COORDINATE) {
        return refused(BELOW);
      }
    }
    for (int k = 0; k < 3; k++) {
      if (ring.answer[k] > MOST_COORDINATE) {
        return refused(ROOM);
      }
    }
    if (elements >= MOST_ELEMENTS) {
      return refused(ROOM);
    }
    System.arraycopy(ring.answer, 0, coordinates, 3 * elements, 3);
    elements++;
    return elements - 1;
  }

  /** Keeps what the works have made as a new ideal, if its norm and the room allow it. */
  private int keepIdeal() {
    if (normOfRows(works.made.rows, 0) > MOST_NORM || ideals >= MOST_IDEALS) {
      return refused(ROOM);
    }
    System.arraycopy(works.made.rows, 0, rows, 9 * ideals, 9);
    ideals++;
    return ideals - 1;
  }

  private static long normOfRows(long[] rows, int at) {
    return rows[at] * rows[at + 4] * rows[at + 8];
  }

  private static boolean isSmallPrime(int p) {
    return p <= MOST_PRIME && isPrimeNumber(p);
  }

  private static boolean isPrimeNumber(long p) {
    if (p < 2) {
      return false;
    }
    for (long q = 2; q * q <= p; q++) {
      if (p % q == 0) {
        return false;
      }
    }
    return true;
  }

  /** The greatest whole number whose square is at most a small x. */
  private static long wholeRoot(long x) {
    long root = 0;
    while (root < MANY_STEPS && (root + 1) * (root + 1) <= x) {
      root++;
    }
    return root;
  }

  private static boolean isPerfectSquare(long x) {
    return x >= 0 && wholeRoot(x) * wholeRoot(x) == x;
  }

  /** A whole root divides c, so it is c's amount at most (and 0 if c is 0). */
  private static boolean hasWholeRoot(int a, int b, int c) {
    for (int x = -9; x <= 9; x++) {
      if (((x + a) * x + b) * x + c == 0) {
        return true;
      }
    }
    return false;
  }

  /** The part of x by y towards 0; a divisor 0, which no caller has, gives 0. */
  private static long part(long x, long y) {
    return y == 0 ? 0 : x / y;
  }

  /** What is left of x by y, from 0 up to y less 1; a divisor not above 0, which no caller has, gives 0. */
  private static long rest(long x, long y) {
    return y <= 0 ? 0 : Math.floorMod(x, y);
  }

  private static long gcd(long x, long y) {
    long a = Math.abs(x);
    long b = Math.abs(y);
    for (int step = 0; step < MANY_STEPS && b != 0; step++) {
      long left = a % b;
      a = b;
      b = left;
    }
    return a;
  }

  /**
   * The whole numbers of the field: the basis and how its members multiply.
   * Three places are held for both degrees, so that one code serves both; the third is empty for degree 2.
   */
  private static final class Ring {
    /** Above the index of every field of the document's polynomials. */
    private static final int MOST_LOWER = 90;
    /** No power of a root of unity has coordinates near this. */
    private static final long FAR = 1000000;

    int degree;
    long polyDisc;
    long fieldDisc;
    long index;
    final long[] poly = new long[3];
    final long[] upper = new long[9];
    final long[] lower = new long[3];
    final long[] products = new long[27];
    final long[] answer = new long[3];
    private final long[] matrix = new long[9];
    private final long[] wide = new long[5];
    private final long[] power = new long[3];

    void openSquare(long a, long b) {
      degree = 2;
      poly[0] = b;
      poly[1] = a;
      poly[2] = 0;
      polyDisc = a * a - 4 * b;
      startBasis();
      findSecond();
      finishRing();
    }

    void openCube(long a, long b, long c) {
      degree = 3;
      poly[0] = c;
      poly[1] = b;
      poly[2] = a;
      polyDisc = a * a * b * b - 4 * b * b * b - 4 * a * a * a * c - 27 * c * c + 18 * a * b * c;
      startBasis();
      findSecond();
      findThird();
      finishRing();
    }

    int realRoots() {
      if (degree == 2) {
        return polyDisc > 0 ? 2 : 0;
      }
      return polyDisc > 0 ? 3 : 1;
    }

    long traceOfSecond() {
      return products[13];
    }

    /** For degree 2: w1 w1 is its trace times w1 less its norm. */
    long normOfSecond() {
      return -products[12];
    }

    private void startBasis() {
      for (int i = 0; i < 9; i++) {
        upper[i] = i % 4 == 0 ? 1 : 0;
      }
      for (int i = 0; i < 3; i++) {
        lower[i] = 1;
      }
    }

    private void findSecond() {
      for (long d = MOST_LOWER; d >= 1; d--) {
        if (polyDisc % (d * d) == 0) {
          for (long h = 0; h < d; h++) {
            if (isWhole(h, 1, 0, d)) {
              upper[3] = h;
              lower[1] = d;
              return;
            }
          }
        }
      }
    }

    /** The square of w1 has r r by d d, so d d divides e. */
    private void findThird() {
      long d = lower[1];
      for (long e = MOST_LOWER; e >= 1; e--) {
        if (d >= 1 && e % (d * d) == 0 && polyDisc % (d * d * e * e) == 0 && findThirdBy(d, e)) {
          return;
        }
      }
    }

    private boolean findThirdBy(long d, long e) {
      for (long l = 0; l < e && l * d < e; l++) {
        for (long k = 0; k < e; k++) {
          if (isWhole(k, l, 1, e)) {
            upper[6] = k;
            upper[7] = l;
            lower[2] = e;
            return true;
          }
        }
      }
      return false;
    }

    /** Whether u0 + u1 r + u2 r r, all by below, has a polynomial of whole coefficients. */
    private boolean isWhole(long u0, long u1, long u2, long below) {
      long sum = -poly[degree - 1];
      long squares = sum * sum - 2 * poly[degree - 2];
      // The trace is cheap and turns most away.
      if (below <= 0 || (degree * u0 + u1 * sum + u2 * squares) % below != 0) {
        return false;
      }
      matrixByPowers(u0, u1, u2);
      if (degree == 2) {
        return matrixNorm() % (below * below) == 0;
      }
      return matrixMiddle() % (below * below) == 0 && matrixNorm() % (below * below * below) == 0;
    }

    /** The rows are the number times 1, r, r r, by powers of r. */
    private void matrixByPowers(long u0, long u1, long u2) {
      matrix[0] = u0;
      matrix[1] = u1;
      matrix[2] = u2;
      for (int i = 1; i < degree; i++) {
        long top = matrix[3 * i - 4 + degree];
        for (int j = 0; j < degree; j++) {
          long moved = j == 0 ? 0 : matrix[3 * i - 4 + j];
          matrix[3 * i + j] = moved - top * poly[j];
        }
      }
    }

    private void finishRing() {
      index = lower[1] * lower[2];
      fieldDisc = part(polyDisc, index * index);
      for (int i = 0; i < 27; i++) {
        products[i] = 0;
      }
      for (int i = 0; i < degree; i++) {
        for (int j = 0; j < degree; j++) {
          multiplyMembers(i, j);
          tellByBasis(lower[i] * lower[j], 9 * i + 3 * j);
        }
      }
    }

    /** The upper part of w i times w j, folded back below the degree by the polynomial. */
    private void multiplyMembers(int i, int j) {
      for (int t = 0; t < 5; t++) {
        wide[t] = 0;
      }
      for (int s = 0; s < degree; s++) {
        for (int t = 0; t < degree; t++) {
          wide[s + t] += upper[3 * i + s] * upper[3 * j + t];
        }
      }
      for (int t = 2 * degree - 2; t >= degree; t--) {
        for (int s = 0; s < degree; s++) {
          wide[t - degree + s] -= wide[t] * poly[s];
        }
      }
    }

    /** Puts the coordinates of the wide number by below into products; scaled by index, all steps are whole. */
    private void tellByBasis(long below, int at) {
      for (int t = 0; t < degree; t++) {
        wide[t] *= index;
      }
      long scale = below * index;
      for (int t = degree - 1; t >= 0; t--) {
        long many = part(wide[t] * lower[t], scale);
        products[at + t] = many;
        for (int s = 0; s <= t; s++) {
          wide[s] -= many * upper[3 * t + s] * part(scale, lower[t]);
        }
      }
    }

    void multiply(long[] x, int xAt, long[] y, int yAt) {
      for (int k = 0; k < 3; k++) {
        answer[k] = 0;
      }
      for (int i = 0; i < degree; i++) {
        for (int j = 0; j < degree; j++) {
          long both = x[xAt + i] * y[yAt + j];
          for (int k = 0; k < degree; k++) {
            answer[k] += both * products[9 * i + 3 * j + k];
          }
        }
      }
    }

    void addTimes(long[] x, int first, int second, long many) {
      for (int k = 0; k < 3; k++) {
        answer[k] = x[first + k] + many * x[second + k];
      }
    }

    /** By Cramer's rule; false if there is no whole answer. */
    boolean divide(long[] x, int first, int second) {
      matrixOf(x, second);
      long below = matrixNorm();
      if (below == 0) {
        return false;
      }
      answer[2] = 0;
      for (int j = 0; j < degree; j++) {
        matrixOf(x, second);
        for (int k = 0; k < degree; k++) {
          matrix[3 * j + k] = x[first + k];
        }
        long above = matrixNorm();
        if (above % below != 0) {
          return false;
        }
        answer[j] = above / below;
      }
      return true;
    }

    /** The rows are the number times w0, w1, w2, by coordinates. */
    void matrixOf(long[] x, int at) {
      for (int j = 0; j < degree; j++) {
        for (int k = 0; k < degree; k++) {
          long sum = 0;
          for (int i = 0; i < degree; i++) {
            sum += x[at + i] * products[9 * i + 3 * j + k];
          }
          matrix[3 * j + k] = sum;
        }
      }
    }

    private long minor(int a, int b, int c, int d) {
      return matrix[a] * matrix[d] - matrix[b] * matrix[c];
    }

    long matrixNorm() {
      if (degree == 2) {
        return minor(0, 1, 3, 4);
      }
      return matrix[0] * minor(4, 5, 7, 8) - matrix[1] * minor(3, 5, 6, 8) + matrix[2] * minor(3, 4, 6, 7);
    }

    long matrixTrace() {
      return degree == 2 ? matrix[0] + matrix[4] : matrix[0] + matrix[4] + matrix[8];
    }

    /** The coefficient of x in the polynomial. */
    long matrixMiddle() {
      if (degree == 2) {
        return -matrixTrace();
      }
      return minor(0, 1, 3, 4) + minor(0, 2, 6, 8) + minor(4, 5, 7, 8);
    }

    boolean hasPowerOne(long[] x, int at) {
      power[0] = 1;
      power[1] = 0;
      power[2] = 0;
      for (int k = 1; k <= MOST_POWER; k++) {
        multiply(power, 0, x, at);
        for (int j = 0; j < 3; j++) {
          power[j] = answer[j];
          if (Math.abs(power[j]) > FAR) {
            return false;
          }
        }
        if (power[0] == 1 && power[1] == 0 && power[2] == 0) {
          return true;
        }
      }
      return false;
    }
  }

  /** A lattice by rows in Hermite's form, built up from all multiples of a number. */
  private static final class Lattice {
    final long[] rows = new long[9];
    private final long[] carry = new long[3];
    private int size;
    /** The lattice has all multiples of this, so that its numbers may be cut down by it. */
    private long whole;

    void startMultiples(int n, long m) {
      size = n;
      whole = m;
      for (int i = 0; i < 9; i++) {
        rows[i] = i % 4 == 0 ? m : 0;
      }
      if (n == 2) {
        rows[8] = 1;
      }
    }

    void startRows(int n, long[] from, int at) {
      size = n;
      whole = from[at];
      System.arraycopy(from, at, rows, 0, 9);
    }

    void include(long[] from, int at) {
      if (whole <= 0) {
        return;
      }
      for (int j = 0; j < size; j++) {
        carry[j] = Math.floorMod(from[at + j], whole);
      }
      for (int place = size - 1; place >= 0; place--) {
        int base = 3 * place;
        for (int step = 0; step < MANY_STEPS && carry[place] != 0; step++) {
          long many = rows[base + place] / carry[place];
          for (int j = 0; j < place; j++) {
            long kept = carry[j];
            carry[j] = Math.floorMod(rows[base + j] - many * kept, whole);
            rows[base + j] = kept;
          }
          long last = carry[place];
          carry[place] = rows[base + place] - many * last;
          rows[base + place] = last;
        }
      }
    }

    /** Brings each number ahead of a row's last below what the row of that place has there. */
    void settle() {
      for (int i = 1; i < size; i++) {
        for (int j = i - 1; j >= 0; j--) {
          long top = rows[4 * j];
          if (top > 0) {
            long many = Math.floorDiv(rows[3 * i + j], top);
            for (int k = 0; k <= j; k++) {
              rows[3 * i + k] -= many * rows[3 * j + k];
            }
          }
        }
      }
    }
  }

  /** Makes ideals from ideals, all told by nine numbers, three a row, from a place of an array on. */
  private static final class IdealWorks {
    final Lattice made = new Lattice();
    final long[] left = new long[3];
    private final Ring ring;
    private final long[] copy = new long[9];
    private final long[] tests = new long[9];
    private final long[] weights = new long[3];

    IdealWorks(Ring ring) {
      this.ring = ring;
    }

    void makeCopy(long[] x, int xAt) {
      made.startRows(ring.degree, x, xAt);
    }

    /** The least ideal that has m and an element. */
    void makeLeast(long m, long[] x, int xAt) {
      made.startMultiples(ring.degree, m);
      startAll();
      for (int i = 0; i < ring.degree; i++) {
        ring.multiply(copy, 3 * i, x, xAt);
        made.include(ring.answer, 0);
      }
      made.settle();
    }

    void makeSum(long[] x, int xAt, long[] y, int yAt) {
      made.startRows(ring.degree, x, xAt);
      for (int i = 0; i < ring.degree; i++) {
        made.include(y, yAt + 3 * i);
      }
      made.settle();
    }

    void makeProduct(long[] x, int xAt, long[] y, int yAt) {
      made.startMultiples(ring.degree, x[xAt] * y[yAt]);
      for (int i = 0; i < ring.degree; i++) {
        for (int j = 0; j < ring.degree; j++) {
          ring.multiply(x, xAt + 3 * i, y, yAt + 3 * j);
          made.include(ring.answer, 0);
        }
      }
      made.settle();
    }

    /** The numbers whose product with each row of y is in x: the quotient, as y divides x. */
    void makeQuotient(long[] x, int xAt, long[] y, int yAt) {
      setTests(x, xAt);
      long modulus = normOfRows(x, xAt);
      long whole = x[xAt];
      made.startMultiples(ring.degree, 1);
      for (int i = 0; i < ring.degree; i++) {
        for (int test = 0; test < ring.degree; test++) {
          if (weigh(y, yAt + 3 * i, 3 * test, modulus)) {
            gather(whole);
            keepLight(modulus, whole);
          }
        }
      }
    }

    private void startAll() {
      for (int i = 0; i < 9; i++) {
        copy[i] = i % 4 == 0 ? 1 : 0;
      }
    }

    /** A number is in x if these three, made with its coordinates, are multiples of x's norm. */
    private void setTests(long[] x, int at) {
      tests[0] = x[at + 4] * x[at + 8];
      tests[1] = -x[at + 3] * x[at + 8];
      tests[2] = x[at + 3] * x[at + 7] - x[at + 6] * x[at + 4];
      tests[3] = 0;
      tests[4] = x[at] * x[at + 8];
      tests[5] = -x[at] * x[at + 7];
      tests[6] = 0;
      tests[7] = 0;
      tests[8] = x[at] * x[at + 4];
    }

    /** What a test says of each made row times y's; false if it says 0 of all. */
    private boolean weigh(long[] y, int yAt, int test, long modulus) {
      boolean heavy = false;
      for (int i = 0; i < ring.degree; i++) {
        ring.multiply(made.rows, 3 * i, y, yAt);
        long sum = 0;
        for (int k = 0; k < ring.degree; k++) {
          sum += tests[test + k] * rest(ring.answer[k], modulus);
        }
        weights[i] = rest(sum, modulus);
        heavy = heavy || weights[i] != 0;
      }
      return heavy;
    }

    /** Adds rows to one another by Euclid's way until the last alone has a weight. */
    private void gather(long whole) {
      System.arraycopy(made.rows, 0, copy, 0, 9);
      for (int i = 0; i + 1 < ring.degree; i++) {
        for (int step = 0; step < MANY_STEPS && weights[i] != 0; step++) {
          long many = weights[i + 1] / weights[i];
          long light = weights[i + 1] - many * weights[i];
          weights[i + 1] = weights[i];
          weights[i] = light;
          for (int k = 3 * i; k < 3 * i + 3; k++) {
            long lessened = rest(copy[k + 3] - many * copy[k], whole);
            copy[k + 3] = copy[k];
            copy[k] = lessened;
          }
        }
      }
    }

    /** Of the last row only the multiples stay whose weight is 0. */
    private void keepLight(long modulus, long whole) {
      int last = ring.degree - 1;
      long many = part(modulus, gcd(modulus, weights[last]));
      for (int k = 3 * last; k < 3 * last + 3; k++) {
        copy[k] = rest(copy[k] * many, whole);
      }
      made.startMultiples(ring.degree, whole);
      for (int i = 0; i < ring.degree; i++) {
        made.include(copy, 3 * i);
      }
      made.settle();
    }

    /** Leaves in left the number that differs from v by what is in the ideal and is least, place by place. */
    void lessen(long[] ideal, int at, long[] v, int vAt) {
      System.arraycopy(v, vAt, left, 0, 3);
      for (int i = ring.degree - 1; i >= 0; i--) {
        long top = ideal[at + 4 * i];
        if (top > 0) {
          long many = Math.floorDiv(left[i], top);
          for (int k = 0; k <= i; k++) {
            left[k] -= many * ideal[at + 3 * i + k];
          }
        }
      }
    }

    boolean has(long[] ideal, int at, long[] v, int vAt) {
      lessen(ideal, at, v, vAt);
      for (int k = 0; k < ring.degree; k++) {
        if (left[k] != 0) {
          return false;
        }
      }
      return true;
    }

    boolean hasAll(long[] ideal, int at, long[] other, int otherAt) {
      for (int i = 0; i < ring.degree; i++) {
        if (!has(ideal, at, other, otherAt + 3 * i)) {
          return false;
        }
      }
      return true;
    }

    /** How many times the prime is in the ideal: by powers of it whose norm can still divide the ideal's. */
    int timesIn(long[] prime, int primeAt, long[] ideal, int at) {
      long norm = normOfRows(ideal, at);
      long each = normOfRows(prime, primeAt);
      makeCopy(prime, primeAt);
      long reached = each;
      int many = 0;
      while (many < MANY_STEPS && reached > 1 && reached <= norm && hasAll(made.rows, 0, ideal, at)) {
        many++;
        reached *= each;
        if (reached <= norm) {
          System.arraycopy(made.rows, 0, copy, 0, 9);
          makeProduct(copy, 0, prime, primeAt);
        }
      }
      return many;
    }
  }

  /** The primes over a prime number, kept until another is asked for. */
  private static final class Splitting {
    int number;
    final int[] exponents = new int[3];
    final int[] degrees = new int[3];
    final long[] rows = new long[27];
    private final Ring ring;
    private final IdealWorks works;
    private final long[] values = new long[3];
    private final long[] second = new long[3];
    private int known;

    Splitting(Ring ring, IdealWorks works) {
      this.ring = ring;
      this.works = works;
    }

    void forget() {
      known = 0;
    }

    void split(int p) {
      if (p == known) {
        return;
      }
      known = p;
      number = 0;
      findFirstDegree(p);
      if (number == 0) {
        works.made.startMultiples(ring.degree, p);
        keepMade(1, ring.degree);
      } else if (ring.degree == 2) {
        exponents[0] = number == 1 ? 2 : 1;
      } else {
        finishCube(p);
      }
    }

    /**
     * A prime of degree 1 is what becomes 0 when w1, w2 are put as numbers modulo p that multiply as w1, w2 do.
     * They come in the order of their rows, as these hold the opposites of those numbers.
     */
    private void findFirstDegree(int p) {
      second[1] = 1;
      ring.matrixOf(second, 0);
      long trace = ring.matrixTrace();
      long middle = ring.matrixMiddle();
      long norm = ring.matrixNorm();
      values[0] = 1;
      for (int u = 0; u < p; u++) {
        values[1] = rest(-u, p);
        if (ring.degree == 2) {
          keepIfTrue(p, u, 0);
        } else if (rest(((values[1] - trace) * values[1] + middle) * values[1] - norm, p) == 0) {
          for (int v = 0; v < p; v++) {
            values[2] = rest(-v, p);
            keepIfTrue(p, u, v);
          }
        }
      }
    }

    private void keepIfTrue(int p, int u, int v) {
      if (number > 2 || !valuesMultiply(p)) {
        return;
      }
      works.made.startMultiples(ring.degree, 1);
      works.made.rows[0] = p;
      works.made.rows[3] = u;
      works.made.rows[6] = v;
      keepMade(1, 1);
    }

    private boolean valuesMultiply(int p) {
      for (int i = 1; i < ring.degree; i++) {
        for (int j = i; j < ring.degree; j++) {
          long sum = -values[i] * values[j];
          for (int k = 0; k < ring.degree; k++) {
            sum += ring.products[9 * i + 3 * j + k] * values[k];
          }
          if (rest(sum, p) != 0) {
            return false;
          }
        }
      }
      return true;
    }

    private void keepMade(int exponent, int degree) {
      if (number > 2) {
        return;
      }
      exponents[number] = exponent;
      degrees[number] = degree;
      System.arraycopy(works.made.rows, 0, rows, 9 * number, 9);
      number++;
    }

    /** Exponents times degrees make 3 together, so what the first prime's square has tells all the rest. */
    private void finishCube(int p) {
      if (number > 2) {
        return;
      }
      works.makeProduct(rows, 0, rows, 0);
      boolean squareHasP = works.made.rows[0] == p;
      if (number == 2) {
        exponents[squareHasP ? 0 : 1] = 2;
      } else if (squareHasP) {
        exponents[0] = 3;
      } else {
        // What is left of p beside a lone prime of degree 1 is a prime of degree 2; the third place is free to hold p.
        works.made.startMultiples(3, p);
        System.arraycopy(works.made.rows, 0, rows, 18, 9);
        works.makeQuotient(rows, 18, rows, 0);
        keepMade(1, 2);
      }
    }

    boolean isPrimeIdeal(long[] ideal, int at) {
      long p = ideal[at];
      if (!isPrimeNumber(p)) {
        return false;
      }
      long norm = normOfRows(ideal, at);
      if (norm == p) {
        return true;
      }
      if (norm == p * p) {
        return leavesField(ideal, at, p);
      }
      // The norm is p p p, so that p is at most 97.
      split((int) p);
      return degrees[0] == 3;
    }

    /** Whether the p p classes make a field: what squares to u + v times itself among them has no value modulo p. */
    private boolean leavesField(long[] ideal, int at, long p) {
      int place = ideal[at + 4] == p ? 1 : 2;
      works.lessen(ideal, at, ring.products, 12 * place);
      long u = works.left[0];
      long v = works.left[place];
      for (long x = 0; x < p; x++) {
        if ((x * x - v * x - u) % p == 0) {
          return false;
        }
      }
      return true;
    }
  }

  /** The reduced forms of the field's discriminant, and the classes of ideals by them; for degree 2. */
  private static final class Forms {
    /** No discriminant from -800 to 1200 has more than 102. */
    private static final int MOST_FORMS = 160;

    int number;
    int classNumber;
    final int[] listed = new int[3 * MOST_FORMS];
    private final int[] least = new int[MOST_FORMS];
    private final Ring ring;
    private final IdealWorks works;
    private final long[] base = new long[9];
    private final long[] power = new long[9];
    private boolean ready;
    private long disc;
    private long root;
    private long a;
    private long b;
    private long c;

    Forms(Ring ring, IdealWorks works) {
      this.ring = ring;
      this.works = works;
    }

    void forget() {
      ready = false;
    }

    void list() {
      if (ready) {
        return;
      }
      ready = true;
      number = 0;
      disc = ring.fieldDisc;
      root = wholeRoot(Math.abs(disc));
      for (long first = disc > 0 ? -root : 1; first <= root; first++) {
        long last = disc > 0 ? root : first;
        for (long middle = disc > 0 ? 1 : 1 - first; middle <= last; middle++) {
          listIfReduced(first, middle);
        }
      }
      if (disc > 0) {
        markCycles();
      } else {
        classNumber = number;
      }
    }

    private void listIfReduced(long first, long middle) {
      if (first == 0 || number >= MOST_FORMS || (middle * middle - disc) % (4 * first) != 0) {
        return;
      }
      a = first;
      b = middle;
      c = (b * b - disc) / (4 * first);
      if (isReduced()) {
        listed[3 * number] = (int) a;
        listed[3 * number + 1] = (int) b;
        listed[3 * number + 2] = (int) c;
        least[number] = -1;
        number++;
      }
    }

    /** The root of disc is no whole number, so comparing by squares is exact. */
    private boolean isReduced() {
      if (disc < 0) {
        return Math.abs(b) <= a && a <= c && (b >= 0 || (-b != a && a != c));
      }
      long twice = 2 * Math.abs(a);
      boolean wide = (twice + b) * (twice + b) > disc;
      boolean narrow = twice <= b || (twice - b) * (twice - b) < disc;
      return b > 0 && b * b < disc && wide && narrow;
    }

    private void markCycles() {
      classNumber = 0;
      for (int k = 0; k < number; k++) {
        if (least[k] < 0) {
          classNumber++;
          markCycle(k);
        }
      }
    }

    private void markCycle(int k) {
      a = listed[3 * k];
      b = listed[3 * k + 1];
      c = listed[3 * k + 2];
      int at = k;
      for (int step = 0; step <= MOST_FORMS && at >= 0 && least[at] < 0; step++) {
        least[at] = k;
        goNext();
        at = numberOfForm();
      }
    }

    private int numberOfForm() {
      for (int k = 0; k < number; k++) {
        if (listed[3 * k] == a && listed[3 * k + 1] == b) {
          return k;
        }
      }
      return -1;
    }

    private void goNext() {
      long amount = Math.abs(c);
      if (amount == 0) {
        return;
      }
      long other;
      if (amount * amount < disc) {
        other = root - Math.floorMod(root + b, 2 * amount);
      } else {
        other = Math.floorMod(-b, 2 * amount);
        other = other > amount ? other - 2 * amount : other;
      }
      a = c;
      b = other;
      c = part(b * b - disc, 4 * a);
    }

    private void formOfRows(long[] rows, int at) {
      long content = rows[at + 4];
      a = part(rows[at], content);
      long before = part(rows[at + 3], content);
      long trace = ring.traceOfSecond();
      b = 2 * before + trace;
      c = part(before * before + before * trace + ring.normOfSecond(), a);
    }

    private void reduce() {
      for (int step = 0; step < MANY_STEPS && !isReduced(); step++) {
        if (disc > 0) {
          goNext();
        } else {
          turn();
        }
      }
    }

    /** One step down for disc below 0: b comes between -a and a, and the lesser of a, c ahead. */
    private void turn() {
      if (a <= 0) {
        return;
      }
      b = Math.floorMod(b, 2 * a);
      b = b > a ? b - 2 * a : b;
      c = part(b * b - disc, 4 * a);
      if (a > c || (a == c && b < 0)) {
        long before = a;
        a = c;
        b = -b;
        c = before;
      }
    }

    private int classOfForm() {
      reduce();
      int at = numberOfForm();
      return disc > 0 && at >= 0 ? least[at] : at;
    }

    int classOfRows(long[] rows, int at) {
      formOfRows(rows, at);
      return classOfForm();
    }

    /** Each power is taken by a small ideal of its class, so that norms stay small. */
    int orderOfRows(long[] rows, int at) {
      works.made.startMultiples(2, 1);
      int goal = classOfRows(works.made.rows, 0);
      int reached = classOfRows(rows, at);
      smallRows(base);
      System.arraycopy(base, 0, power, 0, 9);
      int many = 1;
      while (many <= MOST_FORMS && reached != goal) {
        works.makeProduct(power, 0, base, 0);
        reached = classOfRows(works.made.rows, 0);
        smallRows(power);
        many++;
      }
      return many;
    }

    /** The ideal whose form is the reduced one at hand, or the next if that one's a is below 0. */
    private void smallRows(long[] into) {
      if (a < 0) {
        goNext();
      }
      Arrays.fill(into, 0);
      into[0] = a;
      into[3] = rest(part(b - ring.traceOfSecond(), 2), a);
      into[4] = 1;
      into[8] = 1;
    }
  }

  /** The first unit for degree 2 and real roots, by the continued fraction of (0 or 1, and the root of disc) by 2. */
  private static final class FirstUnit {
    private static final long MOST = 1000000000000000L;

    long atOne;
    long atSecond;
    long sign;

    /** False if a coordinate would be too great. */
    boolean find(long disc, long trace) {
      long odd = disc & 1;
      long root = wholeRoot(disc);
      long p = odd;
      long q = 2;
      long above = 1;
      long aboveBefore = 0;
      long below = 0;
      long belowBefore = 1;
      sign = 1;
      for (int step = 0; step < MANY_STEPS && below <= MOST; step++) {
        long many = part(p + root, q);
        long next = many * above + aboveBefore;
        aboveBefore = above;
        above = next;
        next = many * below + belowBefore;
        belowBefore = below;
        below = next;
        sign = -sign;
        p = many * q - p;
        q = part(disc - p * p, q);
        if (q == 2) {
          atSecond = below;
          atOne = (2 * above - (odd + trace) * below) / 2;
          return atOne <= MOST && atSecond <= MOST;
        }
      }
      return false;
    }
  }
}
