import java.math.BigInteger;
import java.util.ArrayList;
import java.util.List;

/** Reduced forms, classes, cycles and the first unit of a field of degree 2, each by the document's words. */
final class ModelForms {
  final List<BigInteger[]> reduced = new ArrayList<>();
  /** Of each reduced form the least number in its cycle; its own below 0. */
  final List<Integer> least = new ArrayList<>();
  final int classes;
  private final ModelField field;
  private final BigInteger disc;
  private final BigInteger root;

  ModelForms(ModelField field) {
    this.field = field;
    disc = BigInteger.valueOf(field.disc);
    root = disc.abs().sqrt();
    long most = root.longValueExact() + 1;
    for (long a = -most; a <= most; a++) {
      for (long b = -most; b <= most; b++) {
        if (a != 0 && (b * b - field.disc) % (4 * a) == 0) {
          keepReduced(form(BigInteger.valueOf(a), BigInteger.valueOf(b)));
        }
      }
    }
    classes = field.disc < 0 ? ownNumbers() : cycles();
  }

  private void keepReduced(BigInteger[] form) {
    if (isReduced(form)) {
      reduced.add(form);
      least.add(-1);
    }
  }

  private int ownNumbers() {
    for (int k = 0; k < reduced.size(); k++) {
      least.set(k, k);
    }
    return reduced.size();
  }

  private int cycles() {
    int many = 0;
    for (int k = 0; k < reduced.size(); k++) {
      if (least.get(k) < 0) {
        many++;
        for (int at = k; least.get(at) < 0; at = numberOf(next(reduced.get(at)))) {
          least.set(at, k);
        }
      }
    }
    return many;
  }

  private BigInteger[] form(BigInteger a, BigInteger b) {
    return new BigInteger[] {a, b, b.multiply(b).subtract(disc).divide(a.shiftLeft(2))};
  }

  private boolean isReduced(BigInteger[] form) {
    BigInteger b = form[1];
    if (disc.signum() < 0) {
      int toB = form[0].compareTo(b.abs());
      int toC = form[2].compareTo(form[0]);
      return form[0].signum() > 0 && toB >= 0 && toC >= 0 && (b.signum() >= 0 || toB > 0 && toC > 0);
    }
    BigInteger twice = form[0].abs().shiftLeft(1);
    return b.signum() > 0 && isBelowRoot(b) && !isBelowRoot(twice.add(b)) && isBelowRoot(twice.subtract(b));
  }

  /** The root is no whole number, so that each is below or above it. */
  private boolean isBelowRoot(BigInteger x) {
    return x.compareTo(root) <= 0;
  }

  private BigInteger[] next(BigInteger[] form) {
    BigInteger c = form[2];
    BigInteger step = c.abs().shiftLeft(1);
    BigInteger most = isBelowRoot(c.abs()) ? root : c.abs();
    BigInteger b = most.subtract(most.add(form[1]).mod(step));
    return form(c, b);
  }

  private int numberOf(BigInteger[] form) {
    for (int k = 0; k < reduced.size(); k++) {
      if (reduced.get(k)[0].equals(form[0]) && reduced.get(k)[1].equals(form[1])) {
        return k;
      }
    }
    return -1;
  }

  int classOf(ModelLattice ideal) {
    BigInteger content = ideal.rows[1][1];
    BigInteger before = ideal.rows[1][0].divide(content);
    BigInteger[] sums = field.sumsOf(new BigInteger[] {before, BigInteger.ONE});
    BigInteger first = ideal.rows[0][0].divide(content);
    BigInteger[] form = {first, sums[0], sums[1].divide(first)};
    while (!isReduced(form)) {
      form = disc.signum() > 0 ? next(form) : alike(form);
    }
    return least.get(numberOf(form));
  }

  /** Moves until the amount of B is at most A; if it is so, turns. */
  private BigInteger[] alike(BigInteger[] form) {
    BigInteger a = form[0];
    BigInteger b = a.subtract(a.subtract(form[1]).mod(a.shiftLeft(1)));
    return b.equals(form[1]) ? new BigInteger[] {form[2], b.negate(), a} : form(a, b);
  }

  int orderOf(ModelLattice ideal) {
    int goal = classOf(field.multiples(1));
    int many = 1;
    for (ModelLattice power = ideal; classOf(power) != goal; power = field.product(power, ideal)) {
      many++;
    }
    return many;
  }

  /** Coordinates and norm of the first unit: (t + y times the root of disc) by 2 by the convergents of the greater w1. */
  BigInteger[] first() {
    BigInteger trace = field.product(1, 1, 1);
    BigInteger before = BigInteger.ZERO;
    BigInteger above = BigInteger.ONE;
    BigInteger belowBefore = BigInteger.ONE;
    BigInteger below = BigInteger.ZERO;
    BigInteger p = trace;
    BigInteger q = BigInteger.TWO;
    while (true) {
      BigInteger many = floor(p.add(root), q);
      BigInteger next = many.multiply(above).add(before);
      before = above;
      above = next;
      next = many.multiply(below).add(belowBefore);
      belowBefore = below;
      below = next;
      // x less y w1 is small, so its other image, x - y trace + y w1, is great if it is a unit.
      BigInteger[] unit = {above.subtract(below.multiply(trace)), below};
      BigInteger norm = field.sumsOf(unit)[1];
      if (below.signum() > 0 && norm.abs().equals(BigInteger.ONE)) {
        return new BigInteger[] {unit[0], unit[1], norm};
      }
      p = many.multiply(q).subtract(p);
      q = disc.subtract(p.multiply(p)).divide(q);
    }
  }

  private static BigInteger floor(BigInteger x, BigInteger y) {
    return x.subtract(x.mod(y.abs())).divide(y);
  }
}
