/**
 * Promise 28 and the refusals of all promises: what each answers, each in its place in the order, and that it changes
 * nothing but how many there were. A house that has refused is compared with a twin that was not asked.
 */
public final class RefusalTest {
  private static final Due due = new Due();
  private static final int LEAST = Integer.MIN_VALUE;
  private static final int GREATEST = Integer.MAX_VALUE;
  private static final int SLICES = 7;

  private interface Call {
    long on(FieldHouse house);
  }

  private interface Maker {
    FieldHouse make();
  }

  /** How a refusal is told: as it is, or as 2000000000 or 4000000000000000000 less it. */
  private enum Told { PLAIN, INT, LONG }

  public static void main(String[] args) {
    counts();
    countsGoOn();
    allCallsOfAnObject();
    withoutField();
    fieldsInSquare();
    elementsInSquare();
    idealsInSquare();
    primesAndFormsInSquare();
    inRealSquare();
    inCube();
    inEmptyHouse();
    inFullHouse(2);
    inFullHouse(3);
    answersAreNoRefusals();
    due.end();
  }

  private static void counts() {
    due.promise(28);
    FieldHouse x = new FieldHouse();
    int[] other = {LEAST, -9, -1, 2, 3, 9, 10, 17, 18, 100, GREATEST};
    for (int what : other) {
      due.is("count(" + what + ")", x.count(what), -9);
    }
    for (int what = 11; what <= 16; what++) {
      due.is("-9 is no refusal: count(" + what + ")", x.count(what), 0);
    }
    x.square(0, 5);
    x.element(1, 2, 0);
    x.element(1, 3, 0);
    x.ideal(7, 0);
    due.is("elements", x.count(0), 2);
    due.is("ideals", x.count(1), 1);
    x.unit(5);
    x.field(5);
    x.field(6);
    x.make(3, 0, 1);
    x.element(-400, 0, 0);
    x.element(400, 0, 0);
    x.element(0, 400, 0);
    int[] want = {1, 2, 1, 1, 0, 2};
    for (int i = 0; i < 6; i++) {
      due.is("count(" + (11 + i) + ")", x.count(11 + i), want[i]);
    }
    due.is("as told counts, too", x.form(99, 0), Due.TOLD + 1);
    due.is("count(11)", x.count(11), 2);
    due.is("long as told counts, too", x.disc(2), Due.TOLD_LONG + 2);
    due.is("count(12)", x.count(12), 3);
  }

  private static void countsGoOn() {
    due.promise(28);
    FieldHouse x = Due.fullHouse(2);
    due.is("a full house's elements", x.count(0), 100);
    due.is("a full house's ideals", x.count(1), 80);
    x.element(0, 0, 0);
    x.ideal(1, 0);
    x.ideal(0, 0);
    due.is("count(16)", x.count(16), 2);
    due.is("count(14)", x.count(14), 1);
    x.cube(1, 1, -1);
    due.is("no elements in a new field", x.count(0), 0);
    due.is("no ideals in a new field", x.count(1), 0);
    due.is("refusals go on in a new field: -6", x.count(16), 2);
    due.is("refusals go on in a new field: -4", x.count(14), 1);
    FieldHouse y = new FieldHouse();
    due.is("another object has its own", y.count(16), 0);
  }

  /** An object is used for 512 calls; the last is answered as the first. */
  private static void allCallsOfAnObject() {
    due.promise(28);
    FieldHouse x = new FieldHouse();
    for (int i = 0; i < 509; i++) {
      due.is("call " + (i + 1), x.field(0), -3);
    }
    due.is("call 510", x.count(13), 509);
    due.is("call 511", x.square(0, 5), 1);
    due.is("call 512", x.field(0), 2);
  }

  private static void withoutField() {
    Maker none = FieldHouse::new;
    refuses(2, "below ahead of above", none, x -> x.square(-21, 201), -4, Told.PLAIN);
    refuses(2, "below ahead of a product", none, x -> x.square(-21, 0), -4, Told.PLAIN);
    refuses(2, "above ahead of a product", none, x -> x.square(21, 0), -6, Told.PLAIN);
    refuses(2, "a product", none, x -> x.square(0, -4), -3, Told.PLAIN);
    refuses(3, "below ahead of above", none, x -> x.cube(4, -10, 0), -4, Told.PLAIN);
    refuses(3, "below ahead of a product", none, x -> x.cube(-4, 0, 0), -4, Told.PLAIN);
    refuses(3, "above ahead of a product", none, x -> x.cube(4, 0, 0), -6, Told.PLAIN);
    refuses(3, "a product", none, x -> x.cube(0, 0, 0), -3, Told.PLAIN);
    for (int i : new int[] {LEAST, -1, 0, 9, GREATEST}) {
      refuses(4, "field", none, x -> x.field(i), -3, Told.PLAIN);
      refuses(5, "disc", none, x -> x.disc(i), -3, Told.LONG);
      refuses(6, "basis", none, x -> x.basis(i, i), -3, Told.PLAIN);
      refuses(7, "table", none, x -> x.table(i, i, i), -3, Told.INT);
      refuses(8, "element", none, x -> x.element(i, i, i), -3, Told.PLAIN);
      refuses(9, "make", none, x -> x.make(i, i, i), -3, Told.PLAIN);
      refuses(10, "coordinate", none, x -> x.coordinate(i, i), -3, Told.INT);
      refuses(11, "norm", none, x -> x.norm(i, i), -3, Told.LONG);
      refuses(12, "unit", none, x -> x.unit(i), -3, Told.PLAIN);
      refuses(13, "ideal", none, x -> x.ideal(i, i), -3, Told.PLAIN);
      refuses(14, "join", none, x -> x.join(i, i, i), -3, Told.PLAIN);
      refuses(15, "row", none, x -> x.row(i, i, i), -3, Told.PLAIN);
      refuses(16, "idealOf", none, x -> x.idealOf(i, i), -3, Told.PLAIN);
      refuses(17, "in", none, x -> x.in(i, i), -3, Told.PLAIN);
      refuses(18, "divides", none, x -> x.divides(i, i), -3, Told.PLAIN);
      refuses(19, "primes", none, x -> x.primes(i), -3, Told.PLAIN);
      refuses(20, "prime", none, x -> x.prime(i, i, i), -3, Told.PLAIN);
      refuses(21, "take", none, x -> x.take(i, i), -3, Told.PLAIN);
      refuses(22, "times", none, x -> x.times(i, i, i), -3, Told.PLAIN);
      refuses(24, "form", none, x -> x.form(i, i), -3, Told.INT);
      refuses(25, "classOf", none, x -> x.classOf(i), -3, Told.PLAIN);
      refuses(26, "order", none, x -> x.order(i), -3, Told.PLAIN);
      refuses(27, "first", none, x -> x.first(i), -3, Told.LONG);
    }
    refuses(23, "classes", none, x -> x.classes(), -3, Told.PLAIN);
  }

  /** Elements 3 + 2 w1, 300 w1 - 300, 0; ideals over 2, over 3, the multiples of 900. */
  private static FieldHouse squareHouse() {
    FieldHouse x = Due.square(1, 6);
    x.element(3, 2, 0);
    x.element(-300, 300, 0);
    x.element(0, 0, 0);
    x.ideal(2, 0);
    x.take(3, 1);
    x.ideal(900, 2);
    return x;
  }

  private static void fieldsInSquare() {
    Maker square = RefusalTest::squareHouse;
    refuses(2, "below", square, x -> x.square(20, -201), -4, Told.PLAIN);
    refuses(2, "above", square, x -> x.square(21, 1), -6, Told.PLAIN);
    refuses(2, "a product", square, x -> x.square(3, 2), -3, Told.PLAIN);
    refuses(3, "below", square, x -> x.cube(3, 9, -10), -4, Told.PLAIN);
    refuses(3, "above", square, x -> x.cube(4, 1, 1), -6, Told.PLAIN);
    refuses(3, "a product", square, x -> x.cube(0, 0, 8), -3, Told.PLAIN);
    refuses(4, "other", square, x -> x.field(4), -2, Told.PLAIN);
    refuses(5, "other", square, x -> x.disc(2), -2, Told.LONG);
    refuses(6, "nobody", square, x -> x.basis(2, 0), -1, Told.PLAIN);
    refuses(6, "nobody", square, x -> x.basis(0, 3), -1, Told.PLAIN);
    refuses(7, "nobody", square, x -> x.table(2, 0, 0), -1, Told.INT);
    refuses(7, "nobody", square, x -> x.table(0, 2, 0), -1, Told.INT);
    refuses(7, "nobody", square, x -> x.table(0, 0, 2), -1, Told.INT);
  }

  private static void elementsInSquare() {
    Maker square = RefusalTest::squareHouse;
    refuses(8, "third ahead of below", square, x -> x.element(-301, 0, 1), -1, Told.PLAIN);
    refuses(8, "third ahead of above", square, x -> x.element(301, 0, 301), -1, Told.PLAIN);
    refuses(8, "below ahead of above", square, x -> x.element(301, -301, 0), -4, Told.PLAIN);
    refuses(8, "above", square, x -> x.element(0, 301, 0), -6, Told.PLAIN);
    refuses(9, "nobody ahead of other", square, x -> x.make(9, 0, 3), -1, Told.PLAIN);
    refuses(9, "nobody ahead of by 0", square, x -> x.make(3, 3, 2), -1, Told.PLAIN);
    refuses(9, "other ahead of by 0", square, x -> x.make(4, 0, 2), -2, Told.PLAIN);
    refuses(9, "other ahead of below", square, x -> x.make(-1, 1, 1), -2, Told.PLAIN);
    refuses(9, "by 0", square, x -> x.make(3, 0, 2), -3, Told.PLAIN);
    refuses(9, "not whole", square, x -> x.make(3, 0, 1), -3, Told.PLAIN);
    refuses(9, "below ahead of above", square, x -> x.make(0, 1, 1), -4, Told.PLAIN);
    refuses(9, "below in a product", square, x -> x.make(2, 1, 1), -4, Told.PLAIN);
    refuses(9, "above", square, x -> x.make(1, 0, 1), -6, Told.PLAIN);
    refuses(10, "nobody", square, x -> x.coordinate(3, 0), -1, Told.INT);
    refuses(10, "no place", square, x -> x.coordinate(0, 2), -1, Told.INT);
    refuses(11, "nobody ahead of other", square, x -> x.norm(3, 3), -1, Told.LONG);
    refuses(11, "other", square, x -> x.norm(0, 3), -2, Told.LONG);
    refuses(12, "nobody", square, x -> x.unit(3), -1, Told.PLAIN);
  }

  private static void idealsInSquare() {
    Maker square = RefusalTest::squareHouse;
    refuses(13, "nobody ahead of below", square, x -> x.ideal(0, 3), -1, Told.PLAIN);
    refuses(13, "nobody ahead of above", square, x -> x.ideal(1000001, 3), -1, Told.PLAIN);
    refuses(13, "below", square, x -> x.ideal(0, 0), -4, Told.PLAIN);
    refuses(13, "above", square, x -> x.ideal(1000001, 0), -6, Told.PLAIN);
    refuses(13, "norm", square, x -> x.ideal(1001, 2), -6, Told.PLAIN);
    refuses(14, "nobody ahead of other", square, x -> x.join(9, 3, 0), -1, Told.PLAIN);
    refuses(14, "nobody ahead of what does not divide", square, x -> x.join(2, 0, 3), -1, Told.PLAIN);
    refuses(14, "other ahead of what does not divide", square, x -> x.join(3, 0, 2), -2, Told.PLAIN);
    refuses(14, "other ahead of norm", square, x -> x.join(-1, 2, 2), -2, Told.PLAIN);
    refuses(14, "does not divide", square, x -> x.join(2, 0, 2), -3, Told.PLAIN);
    refuses(14, "norm", square, x -> x.join(1, 2, 1), -6, Told.PLAIN);
    refuses(15, "nobody", square, x -> x.row(3, 0, 0), -1, Told.PLAIN);
    refuses(15, "no place", square, x -> x.row(0, 0, 2), -1, Told.PLAIN);
    refuses(15, "no row", square, x -> x.row(0, 2, 0), -1, Told.PLAIN);
    refuses(16, "nobody ahead of other", square, x -> x.idealOf(3, 3), -1, Told.PLAIN);
    refuses(16, "other", square, x -> x.idealOf(0, 3), -2, Told.PLAIN);
    refuses(17, "no ideal", square, x -> x.in(3, 0), -1, Told.PLAIN);
    refuses(17, "no element", square, x -> x.in(0, 3), -1, Told.PLAIN);
    refuses(18, "no first", square, x -> x.divides(3, 0), -1, Told.PLAIN);
    refuses(18, "no second", square, x -> x.divides(0, 3), -1, Told.PLAIN);
  }

  private static void primesAndFormsInSquare() {
    Maker square = RefusalTest::squareHouse;
    refuses(19, "1", square, x -> x.primes(1), -1, Told.PLAIN);
    refuses(19, "101", square, x -> x.primes(101), -1, Told.PLAIN);
    refuses(20, "nobody ahead of other", square, x -> x.prime(97, 2, 6), -1, Told.PLAIN);
    refuses(20, "other", square, x -> x.prime(97, 0, 6), -2, Told.PLAIN);
    refuses(21, "nobody", square, x -> x.take(5, 1), -1, Told.PLAIN);
    refuses(22, "no ideal", square, x -> x.times(3, 2, 0), -1, Told.PLAIN);
    refuses(22, "no prime", square, x -> x.times(0, 97, 2), -1, Told.PLAIN);
    refuses(24, "other ahead of nobody", square, x -> x.form(3, 3), -2, Told.INT);
    refuses(24, "nobody", square, x -> x.form(3, 0), -1, Told.INT);
    refuses(25, "nobody", square, x -> x.classOf(3), -1, Told.PLAIN);
    refuses(26, "nobody", square, x -> x.order(3), -1, Told.PLAIN);
    refuses(27, "disc below 0", square, x -> x.first(0), -2, Told.LONG);
  }

  private static void inRealSquare() {
    Maker real = () -> {
      FieldHouse x = Due.square(-9, -192);
      x.element(1, 1, 0);
      x.take(2, 0);
      return x;
    };
    refuses(24, "nobody", real, x -> x.form(102, 2), -1, Told.INT);
    refuses(25, "nobody", real, x -> x.classOf(1), -1, Told.PLAIN);
    refuses(26, "nobody", real, x -> x.order(1), -1, Told.PLAIN);
    refuses(27, "other ahead of room", real, x -> x.first(3), -2, Told.LONG);
    for (int what = 0; what < 3; what++) {
      int one = what;
      refuses(27, "room", real, x -> x.first(one), -6, Told.LONG);
    }
  }

  private static FieldHouse cubeHouse() {
    FieldHouse x = Due.cube(-1, -2, -8);
    x.element(3, 2, -1);
    x.element(300, 300, -297);
    x.element(0, 0, 0);
    x.ideal(6, 0);
    x.take(2, 2);
    x.ideal(90, 2);
    return x;
  }

  private static void inCube() {
    Maker cube = RefusalTest::cubeHouse;
    refuses(2, "a product", cube, x -> x.square(2, 1), -3, Told.PLAIN);
    refuses(3, "a product", cube, x -> x.cube(0, 0, 8), -3, Told.PLAIN);
    refuses(6, "nobody", cube, x -> x.basis(0, 4), -1, Told.PLAIN);
    refuses(7, "nobody", cube, x -> x.table(3, 0, 0), -1, Told.INT);
    refuses(8, "below ahead of above", cube, x -> x.element(301, 301, -301), -4, Told.PLAIN);
    refuses(8, "above", cube, x -> x.element(0, 0, 301), -6, Told.PLAIN);
    refuses(9, "by 0", cube, x -> x.make(3, 1, 2), -3, Told.PLAIN);
    refuses(9, "not whole", cube, x -> x.make(3, 0, 1), -3, Told.PLAIN);
    refuses(9, "below ahead of above", cube, x -> x.make(0, 1, 1), -4, Told.PLAIN);
    refuses(9, "above", cube, x -> x.make(0, 0, 1), -6, Told.PLAIN);
    refuses(10, "no place", cube, x -> x.coordinate(0, 3), -1, Told.INT);
    refuses(13, "norm", cube, x -> x.ideal(101, 2), -6, Told.PLAIN);
    refuses(14, "does not divide", cube, x -> x.join(2, 1, 2), -3, Told.PLAIN);
    refuses(14, "norm", cube, x -> x.join(1, 2, 1), -6, Told.PLAIN);
    refuses(15, "no row", cube, x -> x.row(0, 3, 0), -1, Told.PLAIN);
    refuses(20, "nobody ahead of other", cube, x -> x.prime(2, 3, 11), -1, Told.PLAIN);
    refuses(20, "other", cube, x -> x.prime(2, 2, 11), -2, Told.PLAIN);
    refuses(23, "degree", cube, x -> x.classes(), -2, Told.PLAIN);
    refuses(24, "degree ahead of nobody", cube, x -> x.form(-1, 0), -2, Told.INT);
    refuses(25, "degree ahead of nobody", cube, x -> x.classOf(9), -2, Told.PLAIN);
    refuses(26, "degree ahead of nobody", cube, x -> x.order(9), -2, Told.PLAIN);
    refuses(27, "degree", cube, x -> x.first(0), -2, Told.LONG);
  }

  /** A field without elements and ideals. */
  private static void inEmptyHouse() {
    Maker empty = () -> Due.square(0, 5);
    refuses(9, "nobody", empty, x -> x.make(0, 0, 0), -1, Told.PLAIN);
    refuses(10, "nobody", empty, x -> x.coordinate(0, 0), -1, Told.INT);
    refuses(11, "nobody", empty, x -> x.norm(0, 0), -1, Told.LONG);
    refuses(12, "nobody", empty, x -> x.unit(0), -1, Told.PLAIN);
    refuses(13, "nobody", empty, x -> x.ideal(1, 0), -1, Told.PLAIN);
    refuses(14, "nobody", empty, x -> x.join(0, 0, 0), -1, Told.PLAIN);
    refuses(15, "nobody", empty, x -> x.row(0, 0, 0), -1, Told.PLAIN);
    refuses(16, "nobody", empty, x -> x.idealOf(0, 0), -1, Told.PLAIN);
    refuses(17, "nobody", empty, x -> x.in(0, 0), -1, Told.PLAIN);
    refuses(18, "nobody", empty, x -> x.divides(0, 0), -1, Told.PLAIN);
    refuses(22, "nobody", empty, x -> x.times(0, 2, 0), -1, Told.PLAIN);
    refuses(25, "nobody", empty, x -> x.classOf(0), -1, Told.PLAIN);
    refuses(26, "nobody", empty, x -> x.order(0), -1, Told.PLAIN);
  }

  private static void inFullHouse(int degree) {
    Maker full = () -> Due.fullHouse(degree);
    refuses(2, "a product", full, x -> x.square(2, 1), -3, Told.PLAIN);
    refuses(3, "a product", full, x -> x.cube(0, 0, 0), -3, Told.PLAIN);
    refuses(8, "no room", full, x -> x.element(0, 0, 0), -6, Told.PLAIN);
    refuses(8, "below ahead of no room", full, x -> x.element(0, -301, 0), -4, Told.PLAIN);
    refuses(9, "no room for a sum", full, x -> x.make(0, 0, 1), -6, Told.PLAIN);
    refuses(9, "no room for a difference", full, x -> x.make(1, 0, 0), -6, Told.PLAIN);
    refuses(9, "no room for a product", full, x -> x.make(2, 0, 1), -6, Told.PLAIN);
    refuses(9, "no room for a part", full, x -> x.make(3, 2, 1), -6, Told.PLAIN);
    refuses(9, "nobody ahead of no room", full, x -> x.make(0, 100, 0), -1, Told.PLAIN);
    refuses(9, "other ahead of no room", full, x -> x.make(4, 0, 0), -2, Told.PLAIN);
    refuses(9, "by 0 ahead of no room", full, x -> x.make(3, 1, 0), -3, Told.PLAIN);
    refuses(9, "not whole ahead of no room", full, x -> x.make(3, 1, 2), -3, Told.PLAIN);
    refuses(13, "no room", full, x -> x.ideal(2, 0), -6, Told.PLAIN);
    refuses(13, "nobody ahead of no room", full, x -> x.ideal(2, 100), -1, Told.PLAIN);
    refuses(13, "below ahead of no room", full, x -> x.ideal(0, 0), -4, Told.PLAIN);
    refuses(14, "no room for a sum", full, x -> x.join(0, 0, 1), -6, Told.PLAIN);
    refuses(14, "no room for a product", full, x -> x.join(1, 1, 1), -6, Told.PLAIN);
    refuses(14, "no room for a quotient", full, x -> x.join(2, 3, 1), -6, Told.PLAIN);
    refuses(14, "nobody ahead of no room", full, x -> x.join(0, 0, 80), -1, Told.PLAIN);
    refuses(14, "other ahead of no room", full, x -> x.join(3, 0, 0), -2, Told.PLAIN);
    refuses(14, "does not divide ahead of no room", full, x -> x.join(2, 1, 2), -3, Told.PLAIN);
    refuses(21, "no room", full, x -> x.take(2, 0), -6, Told.PLAIN);
    refuses(21, "nobody ahead of no room", full, x -> x.take(2, 1), -1, Told.PLAIN);
    refuses(21, "no prime number ahead of no room", full, x -> x.take(101, 0), -1, Told.PLAIN);
  }

  /** The answer; that the one count goes up by one and no other; that all else is as with the twin. */
  private static void refuses(int promise, String why, Maker maker, Call refused, int code, Told told) {
    due.promise(promise);
    long want = told == Told.PLAIN ? code : (told == Told.INT ? Due.TOLD : Due.TOLD_LONG) - code;
    for (int slice = 0; slice < SLICES; slice++) {
      FieldHouse x = maker.make();
      FieldHouse twin = maker.make();
      due.is(why, refused.on(x), want);
      for (int i = 1; i <= 6; i++) {
        due.is(why + ": count(" + (10 + i) + ") then", x.count(10 + i), twin.count(10 + i) + (i == -code ? 1 : 0));
      }
      due.holds(why + " changes nothing, slice " + slice, slice(x, slice).equals(slice(twin, slice)));
    }
  }

  /** A part of all that a house answers, small enough for the calls that an object is used for. */
  private static String slice(FieldHouse x, int slice) {
    StringBuilder all = new StringBuilder();
    int elements = x.count(0);
    int ideals = x.count(1);
    int n = x.field(0);
    all.append(elements).append(' ').append(ideals).append(' ').append(n);
    if (n < 0) {
      return all.toString();
    }
    if (slice == 0) {
      tellField(x, n, all);
    } else if (slice == 1) {
      tellClasses(x, ideals, all);
    } else if (slice == 2) {
      for (int i = 0; i < elements * n; i++) {
        all.append(' ').append(x.coordinate(i / n, i % n));
      }
    } else {
      for (int i = (slice - 3) * 20 * n * n; i < Math.min(ideals, (slice - 2) * 20) * n * n; i++) {
        all.append(' ').append(x.row(i / n / n, i / n % n, i % n));
      }
    }
    return all.toString();
  }

  private static void tellField(FieldHouse x, int n, StringBuilder all) {
    for (int what = 1; what < 4; what++) {
      all.append(' ').append(x.field(what));
    }
    all.append(' ').append(x.disc(0)).append(' ').append(x.disc(1));
    for (int i = 0; i < n; i++) {
      for (int j = 0; j <= n; j++) {
        all.append(' ').append(x.basis(i, j));
      }
    }
    for (int i = 0; i < n * n * n; i++) {
      all.append(' ').append(x.table(i / n / n, i / n % n, i % n));
    }
    for (int p : new int[] {2, 3, 5, 97, 2}) {
      for (int k = 0; k < x.primes(p); k++) {
        for (int what = 0; what < 2 + n * n; what++) {
          all.append(' ').append(x.prime(p, k, what));
        }
      }
    }
  }

  /** Classes, forms, the first unit, and what the next element and ideal would be. */
  private static void tellClasses(FieldHouse x, int ideals, StringBuilder all) {
    all.append(' ').append(x.classes());
    for (int k = 0; k < 9; k++) {
      all.append(' ').append(x.form(k / 3, k % 3)).append(' ').append(x.first(k % 3));
    }
    for (int i = 0; i < Math.min(ideals, 3); i++) {
      all.append(' ').append(x.classOf(i)).append(' ').append(x.order(i)).append(' ').append(x.times(i, 2, 0));
    }
    all.append(' ').append(x.element(5, 5, 0)).append(' ').append(x.norm(0, 0)).append(' ').append(x.unit(0));
    all.append(' ').append(x.ideal(5, 0)).append(' ').append(x.take(3, 0)).append(' ').append(x.idealOf(0, 0));
  }

  /** Where an answer may be below 0, a refusal cannot be taken for one. */
  private static void answersAreNoRefusals() {
    due.promise(28);
    FieldHouse x = Due.square(1, 6);
    x.element(-1, -3, 0);
    due.is("coordinate -1", x.coordinate(0, 0), -1);
    due.is("coordinate -3", x.coordinate(0, 1), -3);
    due.is("table -6", x.table(1, 1, 0), -6);
    due.is("table -1", x.table(1, 1, 1), -1);
    due.is("form -1", x.form(1, 1), -1);
    due.is("trace 1", x.norm(0, 1), 1);
    FieldHouse y = Due.square(-1, -1);
    due.is("first norm -1", y.first(2), -1);
    due.is("form -1", y.form(0, 0), -1);
    for (int what = 11; what <= 16; what++) {
      due.is("no refusals: count(" + what + ")", x.count(what) + y.count(what), 0);
    }
  }
}
