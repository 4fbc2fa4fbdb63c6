import java.math.BigInteger;
import java.util.ArrayList;
import java.util.Arrays;
import java.util.List;
import java.util.Map;

/** The document's face once more, over a ModelField: what is refused, in which order, and what is kept. */
final class ModelHouse {
  private static final BigInteger MOST_COORDINATE = BigInteger.valueOf(300);
  private static final BigInteger MOST_NORM = BigInteger.valueOf(1000000);
  private static final BigInteger MOST_OF_UNIT = BigInteger.TEN.pow(15);

  ModelField field;
  final List<BigInteger[]> elements = new ArrayList<>();
  final List<ModelLattice> ideals = new ArrayList<>();
  private ModelForms forms;
  private final int[] refusals = new int[7];
  private final Map<String, ModelField> known;

  /** Fields that earlier houses had are given, as making one takes long. */
  ModelHouse(Map<String, ModelField> known) {
    this.known = known;
  }

  public int square(int a, int b) {
    if (a < -20 || b < -200) {
      return refuse(-4);
    }
    if (a > 20 || b > 200) {
      return refuse(-6);
    }
    for (int x = -250; x <= 250; x++) {
      if (x * x + a * x + b == 0) {
        return refuse(-3);
      }
    }
    return open(b, a);
  }

  public int cube(int a, int b, int c) {
    if (a < -3 || b < -9 || c < -9) {
      return refuse(-4);
    }
    if (a > 3 || b > 9 || c > 9) {
      return refuse(-6);
    }
    for (int x = -250; x <= 250; x++) {
      if (x * x * x + a * x * x + b * x + c == 0) {
        return refuse(-3);
      }
    }
    return open(c, b, a);
  }

  private int open(int... coefficients) {
    field = known.computeIfAbsent(Arrays.toString(coefficients), name -> new ModelField(coefficients));
    forms = field.n == 2 ? new ModelForms(field) : null;
    elements.clear();
    ideals.clear();
    return 1;
  }

  public int field(int what) {
    if (field == null) {
      return refuse(-3);
    }
    int reals = field.reals();
    switch (what) {
      case 0: return field.n;
      case 1: return (int) field.index;
      case 2: return reals;
      case 3: return reals + (field.n - reals) / 2 - 1;
      default: return refuse(-2);
    }
  }

  public long disc(int what) {
    if (field == null) {
      return refuseLong(-3);
    }
    if (what == 0) {
      return field.disc;
    }
    return what == 1 ? field.polyDisc : refuseLong(-2);
  }

  public int basis(int i, int j) {
    if (field == null) {
      return refuse(-3);
    }
    if (!isPlace(i) || j < 0 || j > field.n) {
      return refuse(-1);
    }
    return field.basisAt(i, j);
  }

  public int table(int i, int j, int k) {
    if (field == null) {
      return refuseInt(-3);
    }
    return isPlace(i) && isPlace(j) && isPlace(k) ? field.product(i, j, k).intValueExact() : refuseInt(-1);
  }

  public int element(int a, int b, int c) {
    if (field == null) {
      return refuse(-3);
    }
    if (field.n == 2) {
      return c != 0 ? refuse(-1) : keepElement(ModelLattice.vector(a, b));
    }
    return keepElement(ModelLattice.vector(a, b, c));
  }

  public int make(int how, int i, int j) {
    if (field == null) {
      return refuse(-3);
    }
    if (!isElement(i) || !isElement(j)) {
      return refuse(-1);
    }
    if (how < 0 || how > 3) {
      return refuse(-2);
    }
    BigInteger[] made = made(how, elements.get(i), elements.get(j));
    return made == null ? refuse(-3) : keepElement(made);
  }

  private BigInteger[] made(int how, BigInteger[] x, BigInteger[] y) {
    if (how == 2) {
      return field.times(x, y);
    }
    if (how == 3) {
      return field.part(x, y);
    }
    BigInteger[] made = new BigInteger[field.n];
    for (int k = 0; k < field.n; k++) {
      made[k] = how == 0 ? x[k].add(y[k]) : x[k].subtract(y[k]);
    }
    return made;
  }

  public int coordinate(int i, int k) {
    if (field == null) {
      return refuseInt(-3);
    }
    return isElement(i) && isPlace(k) ? elements.get(i)[k].intValueExact() : refuseInt(-1);
  }

  public long norm(int i, int what) {
    if (field == null) {
      return refuseLong(-3);
    }
    if (!isElement(i)) {
      return refuseLong(-1);
    }
    BigInteger[] sums = field.sumsOf(elements.get(i));
    switch (what) {
      case 0: return sums[field.n - 1].longValueExact();
      case 1: return sums[0].longValueExact();
      case 2: return (field.n == 2 ? sums[0].negate() : sums[1]).longValueExact();
      default: return refuseLong(-2);
    }
  }

  public int unit(int i) {
    if (field == null) {
      return refuse(-3);
    }
    if (!isElement(i)) {
      return refuse(-1);
    }
    BigInteger[] element = elements.get(i);
    if (!field.sumsOf(element)[field.n - 1].abs().equals(BigInteger.ONE)) {
      return 0;
    }
    BigInteger[] power = element;
    for (int k = 1; k <= 12; k++) {
      if (Arrays.equals(power, field.member(0))) {
        return 2;
      }
      power = field.times(power, element);
    }
    return 1;
  }

  public int ideal(int m, int i) {
    if (field == null) {
      return refuse(-3);
    }
    if (!isElement(i)) {
      return refuse(-1);
    }
    if (m < 1) {
      return refuse(-4);
    }
    return m > 1000000 ? refuse(-6) : keepIdeal(field.least(m, elements.get(i)));
  }

  /** A quotient that is due is answered by its number, and is kept by the caller: it is known by its product alone. */
  public int join(int how, int i, int j) {
    if (field == null) {
      return refuse(-3);
    }
    if (!isIdeal(i) || !isIdeal(j)) {
      return refuse(-1);
    }
    if (how < 0 || how > 2) {
      return refuse(-2);
    }
    if (how < 2) {
      return keepIdeal(how == 0 ? field.sum(ideals.get(i), ideals.get(j))
          : field.product(ideals.get(i), ideals.get(j)));
    }
    if (!ideals.get(j).hasAll(ideals.get(i))) {
      return refuse(-3);
    }
    return ideals.size() < 80 ? ideals.size() : refuse(-6);
  }

  public int row(int i, int k, int j) {
    if (field == null) {
      return refuse(-3);
    }
    return isIdeal(i) && isPlace(k) && isPlace(j) ? ideals.get(i).rows[k][j].intValueExact() : refuse(-1);
  }

  public int idealOf(int i, int what) {
    if (field == null) {
      return refuse(-3);
    }
    if (!isIdeal(i)) {
      return refuse(-1);
    }
    switch (what) {
      case 0: return ideals.get(i).norm().intValueExact();
      case 1: return ideals.get(i).rows[0][0].intValueExact();
      case 2: return field.isPrime(ideals.get(i)) ? 1 : 0;
      default: return refuse(-2);
    }
  }

  public int in(int i, int element) {
    if (field == null) {
      return refuse(-3);
    }
    if (!isIdeal(i) || !isElement(element)) {
      return refuse(-1);
    }
    return ideals.get(i).has(elements.get(element)) ? 1 : 0;
  }

  public int divides(int i, int j) {
    if (field == null) {
      return refuse(-3);
    }
    if (!isIdeal(i) || !isIdeal(j)) {
      return refuse(-1);
    }
    return ideals.get(i).hasAll(ideals.get(j)) ? 1 : 0;
  }

  public int primes(int p) {
    if (field == null) {
      return refuse(-3);
    }
    return isPrimeNumber(p) ? field.primesOver(p).size() : refuse(-1);
  }

  public int prime(int p, int k, int what) {
    if (field == null) {
      return refuse(-3);
    }
    if (!isPrime(p, k)) {
      return refuse(-1);
    }
    int n = field.n;
    if (what < 0 || what >= 2 + n * n) {
      return refuse(-2);
    }
    ModelField.Prime prime = field.primesOver(p).get(k);
    if (what < 2) {
      return what == 0 ? prime.exponent : prime.degree;
    }
    return prime.ideal.rows[(what - 2) / n][(what - 2) % n].intValueExact();
  }

  public int take(int p, int k) {
    if (field == null) {
      return refuse(-3);
    }
    return isPrime(p, k) ? keepIdeal(field.primesOver(p).get(k).ideal) : refuse(-1);
  }

  public int times(int ideal, int p, int k) {
    if (field == null) {
      return refuse(-3);
    }
    if (!isIdeal(ideal) || !isPrime(p, k)) {
      return refuse(-1);
    }
    return field.timesIn(field.primesOver(p).get(k).ideal, ideals.get(ideal));
  }

  public int classes() {
    if (field == null) {
      return refuse(-3);
    }
    return forms == null ? refuse(-2) : forms.classes;
  }

  public int form(int k, int what) {
    if (field == null) {
      return refuseInt(-3);
    }
    if (forms == null || what < 0 || what > 2) {
      return refuseInt(-2);
    }
    return k >= 0 && k < forms.reduced.size() ? forms.reduced.get(k)[what].intValueExact() : refuseInt(-1);
  }

  public int classOf(int ideal) {
    if (field == null) {
      return refuse(-3);
    }
    if (forms == null) {
      return refuse(-2);
    }
    return isIdeal(ideal) ? forms.classOf(ideals.get(ideal)) : refuse(-1);
  }

  public int order(int ideal) {
    if (field == null) {
      return refuse(-3);
    }
    if (forms == null) {
      return refuse(-2);
    }
    return isIdeal(ideal) ? forms.orderOf(ideals.get(ideal)) : refuse(-1);
  }

  public long first(int what) {
    if (field == null) {
      return refuseLong(-3);
    }
    if (forms == null || field.disc < 0 || what < 0 || what > 2) {
      return refuseLong(-2);
    }
    BigInteger[] unit = forms.first();
    boolean above = unit[0].compareTo(MOST_OF_UNIT) > 0 || unit[1].compareTo(MOST_OF_UNIT) > 0;
    return above ? refuseLong(-6) : unit[what].longValueExact();
  }

  public int count(int what) {
    if (what == 0 || what == 1) {
      return what == 0 ? elements.size() : ideals.size();
    }
    return what >= 11 && what <= 16 ? refusals[what - 10] : -9;
  }

  private int refuse(int code) {
    refusals[-code]++;
    return code;
  }

  private int refuseInt(int code) {
    return Due.TOLD - refuse(code);
  }

  private long refuseLong(int code) {
    return Due.TOLD_LONG - refuse(code);
  }

  private boolean isPlace(int k) {
    return k >= 0 && k < field.n;
  }

  private boolean isElement(int i) {
    return i >= 0 && i < elements.size();
  }

  private boolean isIdeal(int i) {
    return i >= 0 && i < ideals.size();
  }

  private boolean isPrime(int p, int k) {
    return isPrimeNumber(p) && k >= 0 && k < field.primesOver(p).size();
  }

  private static boolean isPrimeNumber(int p) {
    for (int one : Due.PRIME_NUMBERS) {
      if (one == p) {
        return true;
      }
    }
    return false;
  }

  private int keepElement(BigInteger[] made) {
    boolean above = elements.size() == 100;
    for (BigInteger one : made) {
      if (one.compareTo(MOST_COORDINATE.negate()) < 0) {
        return refuse(-4);
      }
      above = above || one.compareTo(MOST_COORDINATE) > 0;
    }
    if (above) {
      return refuse(-6);
    }
    elements.add(made);
    return elements.size() - 1;
  }

  private int keepIdeal(ModelLattice made) {
    if (made.norm().compareTo(MOST_NORM) > 0 || ideals.size() == 80) {
      return refuse(-6);
    }
    ideals.add(made);
    return ideals.size() - 1;
  }
}
