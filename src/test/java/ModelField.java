import java.math.BigInteger;
import java.util.ArrayList;
import java.util.Arrays;
import java.util.HashMap;
import java.util.List;
import java.util.Map;

/**
 * A field by the document's words alone, as a second program beside the class: whole numbers by their polynomials,
 * ideals as sets closed under products, primes by trying every set that could be one. It takes ways that the class does
 * not take, and long numbers of any size.
 */
final class ModelField {
  final int n;
  final long polyDisc;
  final long disc;
  final long index;
  /** Every whole number, told by powers of r, is whole numbers by this. */
  private final long below;
  /** Rows of the basis, by powers of r, times below. */
  private final ModelLattice basis;
  private final BigInteger[] poly;
  private final BigInteger[][][] table;
  private final Map<Integer, List<Prime>> primes = new HashMap<>();

  /** A prime with its exponent and degree. */
  static final class Prime {
    final ModelLattice ideal;
    final int exponent;
    final int degree;

    Prime(ModelLattice ideal, int exponent, int degree) {
      this.ideal = ideal;
      this.exponent = exponent;
      this.degree = degree;
    }
  }

  /** The polynomial's coefficients from x to the 0 on, without the first, which is 1. */
  ModelField(int... coefficients) {
    n = coefficients.length;
    poly = new BigInteger[n];
    for (int k = 0; k < n; k++) {
      poly[k] = BigInteger.valueOf(coefficients[k]);
    }
    polyDisc = discOf(coefficients);
    below = greatestSquareIn(polyDisc);
    basis = findBasis();
    BigInteger full = BigInteger.valueOf(below).pow(n);
    index = full.divide(basis.norm()).longValueExact();
    disc = polyDisc / index / index;
    table = new BigInteger[n][n][];
    for (int i = 0; i < n; i++) {
      for (int j = 0; j < n; j++) {
        table[i][j] = coordinates(byBelow(byPowers(basis.rows[i], basis.rows[j])));
      }
    }
  }

  private static long discOf(int[] k) {
    if (k.length == 2) {
      return (long) k[1] * k[1] - 4L * k[0];
    }
    long a = k[2];
    long b = k[1];
    long c = k[0];
    return a * a * b * b - 4 * b * b * b - 4 * a * a * a * c - 27 * c * c + 18 * a * b * c;
  }

  private static long greatestSquareIn(long disc) {
    long most = 1;
    for (long s = 2; s * s <= Math.abs(disc); s++) {
      most = disc % (s * s) == 0 ? s : most;
    }
    return most;
  }

  /** Takes whole numbers in, by a part of what there is, until no part gives one more. */
  private ModelLattice findBasis() {
    long[][] start = new long[n][n];
    for (int i = 0; i < n; i++) {
      start[i][i] = below;
    }
    ModelLattice found = ModelLattice.of(start);
    BigInteger[] more = wholeBeyond(found);
    while (more != null) {
      List<BigInteger[]> vectors = new ArrayList<>(List.of(found.rows));
      vectors.add(more);
      found = new ModelLattice(vectors, n);
      more = wholeBeyond(found);
    }
    return found;
  }

  /** If there are more, then one of them times a prime number is in what there is; null if there are none. */
  private BigInteger[] wholeBeyond(ModelLattice found) {
    for (int p : Due.PRIME_NUMBERS) {
      for (int which = 1; below % p == 0 && which < p * p * (n == 2 ? 1 : p); which++) {
        BigInteger[] part = partBy(sumOf(found, which, p), BigInteger.valueOf(p));
        if (part != null && isWhole(part)) {
          return part;
        }
      }
    }
    return null;
  }

  /** The digits of which, by p, times the rows. */
  private BigInteger[] sumOf(ModelLattice found, int which, int p) {
    BigInteger[] sum = ModelLattice.vector(new long[n]);
    int left = which;
    for (int i = 0; i < n; i++) {
      for (int k = 0; k < n; k++) {
        sum[k] = sum[k].add(found.rows[i][k].multiply(BigInteger.valueOf(left % p)));
      }
      left /= p;
    }
    return sum;
  }

  /** Null if one is no multiple. */
  private static BigInteger[] partBy(BigInteger[] vector, BigInteger by) {
    BigInteger[] part = new BigInteger[vector.length];
    for (int k = 0; k < vector.length; k++) {
      BigInteger[] both = vector[k].divideAndRemainder(by);
      if (both[1].signum() != 0) {
        return null;
      }
      part[k] = both[0];
    }
    return part;
  }

  private BigInteger[] byBelow(BigInteger[] vector) {
    return partBy(vector, BigInteger.valueOf(below));
  }

  /** Whether a number, told by powers of r times below, has a polynomial of whole coefficients. */
  private boolean isWhole(BigInteger[] x) {
    BigInteger[] sums = rootSums(x);
    for (int k = 0; k < n; k++) {
      if (sums[k].mod(BigInteger.valueOf(below).pow(k + 1)).signum() != 0) {
        return false;
      }
    }
    return true;
  }

  /** The product, told by powers of r. */
  private BigInteger[] byPowers(BigInteger[] x, BigInteger[] y) {
    BigInteger[] wide = ModelLattice.vector(new long[2 * n - 1]);
    for (int i = 0; i < n; i++) {
      for (int j = 0; j < n; j++) {
        wide[i + j] = wide[i + j].add(x[i].multiply(y[j]));
      }
    }
    for (int t = 2 * n - 2; t >= n; t--) {
      for (int k = 0; k < n; k++) {
        wide[t - n + k] = wide[t - n + k].subtract(wide[t].multiply(poly[k]));
      }
    }
    return Arrays.copyOf(wide, n);
  }

  /** The sum of the images, of their products by two (, by three): by Newton from the traces of powers. */
  private BigInteger[] rootSums(BigInteger[] x) {
    BigInteger two = BigInteger.TWO;
    BigInteger square = trace(byPowers(x, x));
    BigInteger first = trace(x);
    BigInteger second = first.multiply(first).subtract(square).divide(two);
    if (n == 2) {
      return new BigInteger[] {first, second};
    }
    BigInteger cube = trace(byPowers(byPowers(x, x), x));
    BigInteger third = second.multiply(first).subtract(first.multiply(square)).add(cube);
    return new BigInteger[] {first, second, third.divide(BigInteger.valueOf(3))};
  }

  private BigInteger trace(BigInteger[] x) {
    BigInteger sum = poly[n - 1].negate();
    BigInteger all = x[0].multiply(BigInteger.valueOf(n)).add(x[1].multiply(sum));
    if (n == 3) {
      all = all.add(x[2].multiply(sum.multiply(sum).subtract(poly[1].shiftLeft(1))));
    }
    return all;
  }

  /** How many roots are real: a sign's changes on a grid that is finer than two roots of such a polynomial are near. */
  int reals() {
    int changes = 0;
    int before = signAt(-32 * 256);
    for (int at = 1 - 32 * 256; at <= 32 * 256; at++) {
      int sign = signAt(at);
      changes += sign != before ? 1 : 0;
      before = sign;
    }
    return changes;
  }

  /** Of the polynomial at a number by 256; it is 0 at none, having no root that is a fraction. */
  private int signAt(int at) {
    long sum = 0;
    long lower = 1;
    long[] lowers = new long[n + 1];
    for (int k = n; k >= 0; k--) {
      lowers[k] = lower;
      lower *= 256;
    }
    for (int k = n; k >= 0; k--) {
      sum = sum * at + (k == n ? 1 : poly[k].longValueExact()) * lowers[k];
    }
    return Long.signum(sum);
  }

  /** Of w i the upper number at r to the j, or what it all is divided by if j is n. */
  int basisAt(int i, int j) {
    BigInteger upper = j == n ? BigInteger.valueOf(below) : basis.rows[i][j];
    return upper.divide(basis.rows[i][i]).intValueExact();
  }

  /** Coordinates in the basis of a number told by powers of r times below. */
  private BigInteger[] coordinates(BigInteger[] x) {
    BigInteger[] left = x.clone();
    BigInteger[] told = new BigInteger[n];
    for (int t = n - 1; t >= 0; t--) {
      told[t] = left[t].divide(basis.rows[t][t]);
      for (int k = 0; k < n; k++) {
        left[k] = left[k].subtract(told[t].multiply(basis.rows[t][k]));
      }
    }
    return told;
  }

  /** The sums of the images of a number told by coordinates: trace, (middle,) norm. */
  BigInteger[] sumsOf(BigInteger[] coordinates) {
    BigInteger[] x = ModelLattice.vector(new long[n]);
    for (int i = 0; i < n; i++) {
      for (int k = 0; k < n; k++) {
        x[k] = x[k].add(coordinates[i].multiply(basis.rows[i][k]));
      }
    }
    BigInteger[] sums = rootSums(x);
    for (int k = 0; k < n; k++) {
      sums[k] = sums[k].divide(BigInteger.valueOf(below).pow(k + 1));
    }
    return sums;
  }

  BigInteger product(int i, int j, int k) {
    return table[i][j][k];
  }

  BigInteger[] times(BigInteger[] x, BigInteger[] y) {
    BigInteger[] all = ModelLattice.vector(new long[n]);
    for (int i = 0; i < n; i++) {
      for (int j = 0; j < n; j++) {
        for (int k = 0; k < n; k++) {
          all[k] = all[k].add(x[i].multiply(y[j]).multiply(table[i][j][k]));
        }
      }
    }
    return all;
  }

  /** x by y, or null if that is not whole: 1 by y is told by y's polynomial, whose last coefficient is its norm. */
  BigInteger[] part(BigInteger[] x, BigInteger[] y) {
    BigInteger[] sums = sumsOf(y);
    BigInteger norm = sums[n - 1];
    if (norm.signum() == 0) {
      return null;
    }
    BigInteger[] other = n == 2 ? ModelLattice.vector(0, 0) : times(y, y);
    for (int k = 0; k < n; k++) {
      other[k] = n == 2 ? y[k].negate() : other[k].subtract(sums[0].multiply(y[k]));
    }
    other[0] = other[0].add(sums[n - 2]);
    return partBy(times(x, other), norm);
  }

  BigInteger[] member(int i) {
    long[] one = new long[n];
    one[i] = 1;
    return ModelLattice.vector(one);
  }

  ModelLattice multiples(long m) {
    long[][] rows = new long[n][n];
    for (int i = 0; i < n; i++) {
      rows[i][i] = m;
    }
    return ModelLattice.of(rows);
  }

  ModelLattice least(long m, BigInteger[] element) {
    List<BigInteger[]> vectors = new ArrayList<>(List.of(multiples(m).rows));
    for (int i = 0; i < n; i++) {
      vectors.add(times(element, member(i)));
    }
    return new ModelLattice(vectors, n);
  }

  ModelLattice sum(ModelLattice x, ModelLattice y) {
    List<BigInteger[]> vectors = new ArrayList<>(List.of(x.rows));
    vectors.addAll(List.of(y.rows));
    return new ModelLattice(vectors, n);
  }

  ModelLattice product(ModelLattice x, ModelLattice y) {
    List<BigInteger[]> vectors = new ArrayList<>();
    for (BigInteger[] row : x.rows) {
      for (BigInteger[] other : y.rows) {
        vectors.add(times(row, other));
      }
    }
    return new ModelLattice(vectors, n);
  }

  boolean isIdeal(ModelLattice x) {
    for (int i = 0; i < n; i++) {
      for (int j = 1; j < n; j++) {
        if (!x.has(times(x.rows[i], member(j)))) {
          return false;
        }
      }
    }
    return true;
  }

  int timesIn(ModelLattice prime, ModelLattice ideal) {
    int many = 0;
    for (ModelLattice power = prime; power.hasAll(ideal); power = product(power, prime)) {
      many++;
    }
    return many;
  }

  List<Prime> primesOver(int p) {
    return primes.computeIfAbsent(p, this::findPrimes);
  }

  /** Of the sets that have p, the ideals that no greater one but the set of all has: by degree, then by rows. */
  private List<Prime> findPrimes(int p) {
    List<ModelLattice> found = new ArrayList<>();
    for (int u = 0; u < p; u++) {
      for (int v = 0; v < (n == 2 ? 1 : p); v++) {
        keepPrime(found, n == 2 ? new long[][] {{p, 0}, {u, 1}} : new long[][] {{p, 0, 0}, {u, 1, 0}, {v, 0, 1}});
      }
    }
    for (int u = 0; n == 3 && u < p; u++) {
      for (int v = 0; v < p; v++) {
        keepPrime(found, new long[][] {{p, 0, 0}, {0, p, 0}, {u, v, 1}});
      }
    }
    for (int u = 0; n == 3 && u < p; u++) {
      keepPrime(found, new long[][] {{p, 0, 0}, {u, 1, 0}, {0, 0, p}});
    }
    if (found.isEmpty()) {
      found.add(multiples(p));
    }
    List<Prime> told = new ArrayList<>();
    for (ModelLattice one : found) {
      told.add(new Prime(one, timesIn(one, multiples(p)), degreeOf(one.norm(), p)));
    }
    return told;
  }

  private static int degreeOf(BigInteger norm, int p) {
    int degree = 0;
    for (long left = norm.longValueExact(); left > 1; left /= p) {
      degree++;
    }
    return degree;
  }

  private void keepPrime(List<ModelLattice> found, long[][] rows) {
    // Rows as they stand are in the document's form already.
    ModelLattice one = ModelLattice.of(rows);
    if (!isIdeal(one)) {
      return;
    }
    for (ModelLattice greater : found) {
      if (greater.hasAll(one)) {
        return;
      }
    }
    found.add(one);
  }

  /** Whether it is not all, and no ideal but itself and all has it. */
  boolean isPrime(ModelLattice ideal) {
    long norm = ideal.norm().longValueExact();
    long p = 2;
    while (p * p <= norm && norm % p != 0) {
      p++;
    }
    if (norm == 1) {
      return false;
    }
    if (norm % p != 0 || norm == p) {
      return true;
    }
    long[] number = new long[n];
    number[0] = p;
    if (!ideal.has(ModelLattice.vector(number))) {
      return false;
    }
    if (p <= 97) {
      return primesOver((int) p).stream().anyMatch(one -> one.ideal.same(ideal));
    }
    return !isBelowOfFirstDegree(ideal, p);
  }

  /** Whether an ideal of norm p has one of norm p p: it would have p and, with some number, a w that is free there. */
  private boolean isBelowOfFirstDegree(ModelLattice ideal, long p) {
    int free = ideal.rows[1][1].longValueExact() == p ? 1 : 2;
    for (long t = 0; t < p; t++) {
      long[] less = new long[n];
      less[0] = t;
      less[free] = 1;
      ModelLattice greater = sum(ideal, least(p, ModelLattice.vector(less)));
      if (greater.norm().longValueExact() == p) {
        return true;
      }
    }
    return false;
  }
}
