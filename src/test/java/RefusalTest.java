/** Promise 28 and the refusals of all: what each answers, in which order, and that nothing else changes. */
public final class RefusalTest {
  private static final Due due = new Due();

  private interface Call {
    long on(FieldHouse house);
  }

  private interface Maker {
    FieldHouse make();
  }

  public static void main(String[] args) {
    counts();
    withoutField();
    inSquare();
    inCube();
    inFullHouse();
    answersAreNoRefusals();
    due.end();
  }

  private static void counts() {
    FieldHouse x = new FieldHouse();
    int[] other = {Integer.MIN_VALUE, -1, 2, 3, 9, 10, 17, 18, 100, Integer.MAX_VALUE};
    for (int what : other) {
      due.is("count(" + what + ")", x.count(what), -9);
    }
    for (int what = 11; what <= 16; what++) {
      due.is("asking counts is no refusal: count(" + what + ")", x.count(what), 0);
    }
    x.square(0, 5);
    x.element(1, 2, 0);
    x.element(1, 3, 0);
    x.ideal(7, 0);
    due.is("elements", x.count(0), 2);
    due.is("ideals", x.count(1), 1);
    x.unit(5);
    x.field(5);
    x.field(6);
    x.make(3, 0, 1);
    x.element(-400, 0, 0);
    x.element(400, 0, 0);
    x.element(0, 400, 0);
    int[] want = {1, 2, 1, 1, 0, 2};
    for (int i = 0; i < 6; i++) {
      due.is("count(" + (11 + i) + ")", x.count(11 + i), want[i]);
    }
    due.is("as told counts, too", x.form(99, 0), Due.TOLD + 1);
    due.is("count(11)", x.count(11), 2);
    due.is("long as told counts, too", x.disc(2), Due.TOLD_LONG + 2);
    due.is("count(12)", x.count(12), 3);
    x.cube(1, 1, -1);
    due.is("refusals go on in a new field", x.count(12), 3);
  }

  private static void withoutField() {
    Maker none = FieldHouse::new;
    refuses("field", none, x -> x.field(9), -3, 0);
    refuses("disc", none, x -> x.disc(9), -3, 2);
    refuses("basis", none, x -> x.basis(9, 9), -3, 0);
    refuses("table", none, x -> x.table(9, 9, 9), -3, 1);
    refuses("element", none, x -> x.element(999, 9, 9), -3, 0);
    refuses("make", none, x -> x.make(9, 9, 9), -3, 0);
    refuses("coordinate", none, x -> x.coordinate(9, 9), -3, 1);
    refuses("norm", none, x -> x.norm(9, 9), -3, 2);
    refuses("unit", none, x -> x.unit(9), -3, 0);
    refuses("ideal", none, x -> x.ideal(-9, 9), -3, 0);
    refuses("join", none, x -> x.join(9, 9, 9), -3, 0);
    refuses("row", none, x -> x.row(9, 9, 9), -3, 0);
    refuses("idealOf", none, x -> x.idealOf(9, 9), -3, 0);
    refuses("in", none, x -> x.in(9, 9), -3, 0);
    refuses("divides", none, x -> x.divides(9, 9), -3, 0);
    refuses("primes", none, x -> x.primes(9), -3, 0);
    refuses("prime", none, x -> x.prime(9, 9, 99), -3, 0);
    refuses("take", none, x -> x.take(9, 9), -3, 0);
    refuses("times", none, x -> x.times(9, 9, 9), -3, 0);
    refuses("classes", none, x -> x.classes(), -3, 0);
    refuses("form", none, x -> x.form(9, 9), -3, 1);
    refuses("classOf", none, x -> x.classOf(9), -3, 0);
    refuses("order", none, x -> x.order(9), -3, 0);
    refuses("first", none, x -> x.first(9), -3, 2);
    refuses("square", none, x -> x.square(0, -4), -3, 0);
    refuses("cube", none, x -> x.cube(0, 0, 0), -3, 0);
  }

  private static FieldHouse squareHouse() {
    FieldHouse x = Due.square(1, 6);
    x.element(3, 2, 0);
    x.element(-300, 300, 0);
    x.element(0, 0, 0);
    x.ideal(2, 0);
    x.take(3, 1);
    x.ideal(900, 2);
    return x;
  }

  private static void inSquare() {
    Maker square = RefusalTest::squareHouse;
    refuses("square below", square, x -> x.square(-21, 201), -4, 0);
    refuses("square above", square, x -> x.square(21, 0), -6, 0);
    refuses("square of a product", square, x -> x.square(3, 2), -3, 0);
    refuses("cube below", square, x -> x.cube(4, 0, -10), -4, 0);
    refuses("cube above", square, x -> x.cube(4, 0, 0), -6, 0);
    refuses("cube of a product", square, x -> x.cube(0, 0, 8), -3, 0);
    refuses("field", square, x -> x.field(4), -2, 0);
    refuses("disc", square, x -> x.disc(2), -2, 2);
    refuses("basis", square, x -> x.basis(2, 0), -1, 0);
    refuses("table", square, x -> x.table(0, 0, 2), -1, 1);
    refuses("element, third", square, x -> x.element(-301, 0, 1), -1, 0);
    refuses("element below", square, x -> x.element(301, -301, 0), -4, 0);
    refuses("element above", square, x -> x.element(0, 301, 0), -6, 0);
    refuses("make, nobody", square, x -> x.make(9, 0, 3), -1, 0);
    refuses("make, other", square, x -> x.make(9, 0, 2), -2, 0);
    refuses("make, by 0", square, x -> x.make(3, 0, 2), -3, 0);
    refuses("make, not whole", square, x -> x.make(3, 0, 1), -3, 0);
    refuses("make below", square, x -> x.make(2, 1, 1), -4, 0);
    refuses("make above", square, x -> x.make(1, 0, 1), -6, 0);
    refuses("coordinate", square, x -> x.coordinate(0, 2), -1, 1);
    refuses("norm, nobody", square, x -> x.norm(3, 9), -1, 2);
    refuses("norm, other", square, x -> x.norm(0, 3), -2, 2);
    refuses("unit", square, x -> x.unit(3), -1, 0);
    refuses("ideal, nobody", square, x -> x.ideal(0, 3), -1, 0);
    refuses("ideal below", square, x -> x.ideal(0, 0), -4, 0);
    refuses("ideal above", square, x -> x.ideal(1000001, 0), -6, 0);
    refuses("ideal, norm", square, x -> x.ideal(1001, 2), -6, 0);
    refuses("join, nobody", square, x -> x.join(9, 3, 0), -1, 0);
    refuses("join, other", square, x -> x.join(3, 0, 0), -2, 0);
    refuses("join, does not divide", square, x -> x.join(2, 0, 2), -3, 0);
    refuses("join, norm", square, x -> x.join(1, 2, 1), -6, 0);
    refuses("row", square, x -> x.row(0, 0, 2), -1, 0);
    refuses("idealOf, nobody", square, x -> x.idealOf(3, 9), -1, 0);
    refuses("idealOf, other", square, x -> x.idealOf(0, 3), -2, 0);
    refuses("in", square, x -> x.in(0, 3), -1, 0);
    refuses("divides", square, x -> x.divides(3, 0), -1, 0);
    refuses("primes", square, x -> x.primes(1), -1, 0);
    refuses("prime, nobody", square, x -> x.prime(3, 2, 9), -1, 0);
    refuses("prime, other", square, x -> x.prime(3, 1, 6), -2, 0);
    refuses("take", square, x -> x.take(5, 1), -1, 0);
    refuses("times, no ideal", square, x -> x.times(3, 2, 0), -1, 0);
    refuses("times, no prime", square, x -> x.times(0, 2, 2), -1, 0);
    refuses("form, other", square, x -> x.form(99, 3), -2, 1);
    refuses("form, nobody", square, x -> x.form(3, 0), -1, 1);
    refuses("classOf", square, x -> x.classOf(3), -1, 0);
    refuses("order", square, x -> x.order(3), -1, 0);
    refuses("first", square, x -> x.first(0), -2, 2);
    refuses("first, room", () -> Due.square(1, -180), x -> x.first(1), -6, 2);
    refuses("first, other", () -> Due.square(1, -180), x -> x.first(3), -2, 2);
  }

  private static FieldHouse cubeHouse() {
    FieldHouse x = Due.cube(-1, -2, -8);
    x.element(3, 2, -1);
    x.element(300, 300, 300);
    x.ideal(6, 0);
    x.take(2, 2);
    return x;
  }

  private static void inCube() {
    Maker cube = RefusalTest::cubeHouse;
    refuses("square of a product", cube, x -> x.square(2, 1), -3, 0);
    refuses("basis", cube, x -> x.basis(0, 4), -1, 0);
    refuses("table", cube, x -> x.table(3, 0, 0), -1, 1);
    refuses("element below", cube, x -> x.element(0, 0, -301), -4, 0);
    refuses("element above", cube, x -> x.element(0, 0, 301), -6, 0);
    refuses("make above", cube, x -> x.make(0, 1, 1), -6, 0);
    refuses("coordinate", cube, x -> x.coordinate(0, 3), -1, 1);
    refuses("row", cube, x -> x.row(0, 3, 0), -1, 0);
    refuses("prime, nobody", cube, x -> x.prime(2, 3, 99), -1, 0);
    refuses("prime, other", cube, x -> x.prime(2, 2, 11), -2, 0);
    refuses("classes", cube, x -> x.classes(), -2, 0);
    refuses("form", cube, x -> x.form(-1, 0), -2, 1);
    refuses("classOf", cube, x -> x.classOf(9), -2, 0);
    refuses("order", cube, x -> x.order(9), -2, 0);
    refuses("first", cube, x -> x.first(0), -2, 2);
  }

  private static FieldHouse fullHouse() {
    FieldHouse x = squareHouse();
    while (x.count(0) < 100) {
      x.element(x.count(0), 1, 0);
    }
    while (x.count(1) < 80) {
      x.ideal(x.count(1), 0);
    }
    return x;
  }

  private static void inFullHouse() {
    Maker full = RefusalTest::fullHouse;
    refuses("element", full, x -> x.element(0, 0, 0), -6, 0);
    refuses("make", full, x -> x.make(1, 0, 0), -6, 0);
    refuses("ideal", full, x -> x.ideal(2, 0), -6, 0);
    refuses("join", full, x -> x.join(0, 0, 1), -6, 0);
    refuses("join, product", full, x -> x.join(1, 0, 0), -6, 0);
    refuses("join, quotient", full, x -> x.join(2, 0, 0), -6, 0);
    refuses("take", full, x -> x.take(2, 0), -6, 0);
    refuses("take, nobody", full, x -> x.take(2, 2), -1, 0);
  }

  /** Looks at the answer and at everything before and after; kind 0 tells the number, 1 and 2 as told for int, long. */
  private static void refuses(String call, Maker maker, Call refused, int code, int kind) {
    FieldHouse x = maker.make();
    String before = everything(x);
    int[] counts = counts(x);
    long want = kind == 0 ? code : (kind == 1 ? Due.TOLD : Due.TOLD_LONG) - code;
    due.is(call, refused.on(x), want);
    counts[-code - 1]++;
    int[] now = counts(x);
    for (int i = 0; i < 6; i++) {
      due.is(call + ": count(" + (11 + i) + ") then", now[i], counts[i]);
    }
    due.holds(call + " changes nothing", before.equals(everything(x)));
  }

  private static int[] counts(FieldHouse x) {
    int[] counts = new int[6];
    for (int i = 0; i < 6; i++) {
      counts[i] = x.count(11 + i);
    }
    return counts;
  }

  /** What a house answers without a refusal of its own; of many elements and ideals the first and last few. */
  private static String everything(FieldHouse x) {
    StringBuilder all = new StringBuilder();
    all.append(x.count(0)).append(' ').append(x.count(1));
    int n = x.field(0);
    if (n < 0) {
      return all.toString();
    }
    all.append(' ').append(x.field(1)).append(' ').append(x.disc(0)).append(' ').append(x.disc(1));
    for (int i = 0; i < n; i++) {
      for (int j = 0; j <= n; j++) {
        all.append(' ').append(x.basis(i, j)).append(' ').append(j < n ? x.table(n - 1, i, j) : 0);
      }
    }
    for (int i = 0; i < x.count(0); i++) {
      for (int k = 0; k < n && (i < 3 || i > 97); k++) {
        all.append(' ').append(x.coordinate(i, k));
      }
    }
    for (int i = 0; i < x.count(1); i++) {
      for (int k = 0; k < n * n && (i < 3 || i > 77); k++) {
        all.append(' ').append(x.row(i, k / n, k % n));
      }
    }
    all.append(' ').append(x.primes(2)).append(' ').append(x.prime(2, 0, 1));
    return all.toString();
  }

  /** Where an answer may be below 0, a refusal cannot be taken for one. */
  private static void answersAreNoRefusals() {
    FieldHouse x = Due.square(1, 6);
    x.element(-1, -3, 0);
    due.is("coordinate -1", x.coordinate(0, 0), -1);
    due.is("coordinate -3", x.coordinate(0, 1), -3);
    due.is("table -6", x.table(1, 1, 0), -6);
    due.is("form -1", x.form(1, 1), -1);
    due.is("no refusals", counts(x)[0] + counts(x)[1] + counts(x)[2] + counts(x)[5], 0);
  }
}
