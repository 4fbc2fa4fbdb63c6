/** The edges of promises 8 to 12: coordinates at 300, the full house, parts that are not whole, units. */
public final class ElementEdgeTest {
  private static final Due due = new Due();
  private static final int LEAST = Integer.MIN_VALUE;
  private static final int GREATEST = Integer.MAX_VALUE;

  public static void main(String[] args) {
    coordinatesOfSquare();
    coordinatesOfCube();
    thirdOfSquare();
    roomOfElements(2);
    roomOfElements(3);
    sumsAndDifferences();
    products();
    parts();
    partsThatAreNotWhole();
    kindsAndMembersOfMake();
    roomOfMake();
    orderOfMake();
    placesOfCoordinate();
    normsOfTheLeast();
    normsOfTheGreatest();
    placesOfNorm();
    unitsByNorm();
    unitsByPower();
    due.end();
  }

  private static void elementIs(int degree, int a, int b, int c, int want) {
    FieldHouse x = degree == 2 ? Due.square(0, 5) : Due.cube(0, 0, -2);
    String call = "element(" + a + ", " + b + ", " + c + ") of degree " + degree;
    due.is(call, x.element(a, b, c), want);
    due.is("elements after " + call, x.count(0), want == 0 ? 1 : 0);
    if (want == 0) {
      due.is("coordinate 0 of " + call, x.coordinate(0, 0), a);
      due.is("coordinate 1 of " + call, x.coordinate(0, 1), b);
    }
    if (want == 0 && degree == 3) {
      due.is("coordinate 2 of " + call, x.coordinate(0, 2), c);
    }
  }

  private static void coordinatesOfSquare() {
    due.promise(8);
    for (int a = -300; a <= 300; a += 300) {
      for (int b = -300; b <= 300; b += 300) {
        elementIs(2, a, b, 0, 0);
      }
    }
    elementIs(2, -301, 0, 0, -4);
    elementIs(2, 0, -301, 0, -4);
    elementIs(2, 301, 0, 0, -6);
    elementIs(2, 0, 301, 0, -6);
    elementIs(2, -301, 301, 0, -4);
    elementIs(2, 301, -301, 0, -4);
    elementIs(2, LEAST, 0, 0, -4);
    elementIs(2, 0, LEAST, 0, -4);
    elementIs(2, GREATEST, 0, 0, -6);
    elementIs(2, 0, GREATEST, 0, -6);
    elementIs(2, GREATEST, LEAST, 0, -4);
    elementIs(2, LEAST, GREATEST, 0, -4);
  }

  private static void coordinatesOfCube() {
    due.promise(8);
    for (int i = 0; i < 27; i++) {
      elementIs(3, 300 * (i / 9 - 1), 300 * (i / 3 % 3 - 1), 300 * (i % 3 - 1), 0);
    }
    elementIs(3, -301, 0, 0, -4);
    elementIs(3, 0, -301, 0, -4);
    elementIs(3, 0, 0, -301, -4);
    elementIs(3, 301, 0, 0, -6);
    elementIs(3, 0, 301, 0, -6);
    elementIs(3, 0, 0, 301, -6);
    elementIs(3, 301, 301, -301, -4);
    elementIs(3, -301, 301, 301, -4);
    elementIs(3, 301, -301, 301, -4);
    elementIs(3, 0, 0, LEAST, -4);
    elementIs(3, 0, 0, GREATEST, -6);
    elementIs(3, GREATEST, GREATEST, LEAST, -4);
    elementIs(3, LEAST, LEAST, LEAST, -4);
    elementIs(3, GREATEST, GREATEST, GREATEST, -6);
  }

  private static void thirdOfSquare() {
    due.promise(8);
    for (int c : new int[] {LEAST, -301, -300, -1, 1, 300, 301, GREATEST}) {
      elementIs(2, 0, 0, c, -1);
      elementIs(2, -301, 0, c, -1);
      elementIs(2, 0, 301, c, -1);
    }
  }

  private static void roomOfElements(int degree) {
    due.promise(8);
    FieldHouse x = degree == 2 ? Due.square(0, 5) : Due.cube(0, 0, -2);
    for (int i = 0; i < 100; i++) {
      due.is("element " + i, x.element(i, -i, 0), i);
    }
    due.is("count(0)", x.count(0), 100);
    due.is("one too many", x.element(0, 0, 0), -6);
    due.is("one too many, though there is such a one", x.element(99, -99, 0), -6);
    due.is("too many and above", x.element(301, 0, 0), -6);
    due.is("-4 is told ahead of no room", x.element(0, -301, 0), -4);
    due.is("the third", x.element(0, 0, 1), degree == 2 ? -1 : -6);
    due.is("count(0) still", x.count(0), 100);
    due.is("element 99 still", x.coordinate(99, 1), -99);
    due.is("element 0 still", x.coordinate(0, 1), 0);
  }

  /** What make answers of two new elements of degree 3 alike at one place; taken is 2, the third. */
  private static void makeAt(int place, int how, int first, int second, int want) {
    FieldHouse x = Due.cube(0, 0, -2);
    x.element(place == 0 ? first : 0, place == 1 ? first : 0, place == 2 ? first : 0);
    x.element(place == 0 ? second : 0, place == 1 ? second : 0, place == 2 ? second : 0);
    String call = "make(" + how + ") of " + first + " and " + second + " at place " + place;
    due.is(call, x.make(how, 0, 1), want);
    due.is("elements after " + call, x.count(0), want == 2 ? 3 : 2);
    if (want == 2) {
      due.is(call + " is", x.coordinate(2, place), how == 0 ? first + second : first - second);
    }
  }

  private static void sumsAndDifferences() {
    due.promise(9);
    for (int place = 0; place < 3; place++) {
      makeAt(place, 0, 299, 1, 2);
      makeAt(place, 0, 300, 1, -6);
      makeAt(place, 0, 300, 300, -6);
      makeAt(place, 0, -299, -1, 2);
      makeAt(place, 0, -300, -1, -4);
      makeAt(place, 0, -300, -300, -4);
      makeAt(place, 0, -300, 300, 2);
      makeAt(place, 1, 299, -1, 2);
      makeAt(place, 1, 300, -1, -6);
      makeAt(place, 1, 300, -300, -6);
      makeAt(place, 1, -299, 1, 2);
      makeAt(place, 1, -300, 1, -4);
      makeAt(place, 1, -300, 300, -4);
      makeAt(place, 1, 300, 300, 2);
    }
  }

  /** In the field of the root of 2: what make answers of two elements, and the third's coordinates if it is taken. */
  private static void makeIs(int how, int[] first, int[] second, int want, int... coordinates) {
    FieldHouse x = Due.square(0, -2);
    x.element(first[0], first[1], 0);
    x.element(second[0], second[1], 0);
    String call = "make(" + how + ") of " + first[0] + " " + first[1] + " and " + second[0] + " " + second[1];
    due.is(call, x.make(how, 0, 1), want);
    for (int k = 0; k < coordinates.length; k++) {
      due.is(call + " at " + k, x.coordinate(2, k), coordinates[k]);
    }
    due.is("elements after " + call, x.count(0), want == 2 ? 3 : 2);
  }

  private static int[] at(int a, int b) {
    return new int[] {a, b};
  }

  private static void products() {
    due.promise(9);
    makeIs(2, at(150, 0), at(2, 0), 2, 300, 0);
    makeIs(2, at(150, 0), at(-2, 0), 2, -300, 0);
    makeIs(2, at(43, 0), at(7, 0), -6);
    makeIs(2, at(-43, 0), at(7, 0), -4);
    makeIs(2, at(150, 0), at(0, 2), 2, 0, 300);
    makeIs(2, at(150, 0), at(0, -2), 2, 0, -300);
    makeIs(2, at(43, 0), at(0, 7), -6);
    makeIs(2, at(43, 0), at(0, -7), -4);
    makeIs(2, at(300, 300), at(300, 300), -6);
    makeIs(2, at(-300, -300), at(300, 300), -4);
    makeIs(2, at(300, 300), at(0, 0), 2, 0, 0);
    makeIs(2, at(300, -300), at(1, 0), 2, 300, -300);
    makeIs(2, at(300, -300), at(-1, 0), 2, -300, 300);
    // Above at place 0 and below at place 1, and the other way about: -4 is told first.
    makeIs(2, at(20, -20), at(20, 0), -4);
    makeIs(2, at(-20, 20), at(20, 0), -4);
  }

  private static void parts() {
    due.promise(9);
    makeIs(3, at(-300, 300), at(-1, 1), 2, 300, 0);
    makeIs(3, at(300, -300), at(-1, 1), 2, -300, 0);
    makeIs(3, at(-298, 299), at(-1, 1), 2, 300, 1);
    makeIs(3, at(-299, 300), at(-1, 1), -6);
    makeIs(3, at(299, -300), at(-1, 1), -4);
    makeIs(3, at(0, 300), at(0, 1), 2, 300, 0);
    makeIs(3, at(300, 0), at(0, 1), 2, 0, 150);
    makeIs(3, at(300, 300), at(-1, 1), -6);
    makeIs(3, at(300, 300), at(1, -1), -4);
    makeIs(3, at(300, -300), at(300, -300), 2, 1, 0);
    makeIs(3, at(300, -300), at(-300, 300), 2, -1, 0);
    makeIs(3, at(0, 0), at(300, 300), 2, 0, 0);
    makeIs(3, at(300, -300), at(1, 0), 2, 300, -300);
  }

  private static void partsThatAreNotWhole() {
    due.promise(9);
    makeIs(3, at(0, 0), at(0, 0), -3);
    makeIs(3, at(1, 0), at(0, 0), -3);
    makeIs(3, at(300, 300), at(0, 0), -3);
    makeIs(3, at(1, 0), at(2, 0), -3);
    makeIs(3, at(2, 1), at(2, 0), -3);
    makeIs(3, at(1, 2), at(2, 0), -3);
    makeIs(3, at(1, 0), at(0, 1), -3);
    makeIs(3, at(2, 0), at(0, 1), 2, 0, 1);
    makeIs(3, at(299, 0), at(300, 0), -3);
    makeIs(3, at(1, 0), at(3, 2), 2, 3, -2);
    // Whole by a basis with fractions of r: (1 + r) by 2, where r r is -3.
    FieldHouse x = Due.square(0, 3);
    x.element(2, 0, 0);
    x.element(0, 2, 0);
    x.element(1, 0, 0);
    due.is("1 + r by 2", x.make(3, 1, 0), 3);
    due.is("1 by 2", x.make(3, 2, 0), -3);
    due.is("1 by 1", x.make(3, 2, 2), 4);
    FieldHouse y = Due.cube(0, 0, -2);
    y.element(2, 0, 0);
    y.element(0, 1, 0);
    y.element(0, 0, 0);
    due.is("2 by its third root", y.make(3, 0, 1), 3);
    due.is("that is r r", y.coordinate(3, 2), 1);
    due.is("the third root by 2", y.make(3, 1, 0), -3);
    due.is("2 by 0", y.make(3, 0, 2), -3);
    due.is("0 by 0", y.make(3, 2, 2), -3);
    due.is("count(13)", y.count(13), 3);
  }

  private static void kindsAndMembersOfMake() {
    due.promise(9);
    FieldHouse x = Due.square(0, 5);
    due.is("no elements yet", x.make(0, 0, 0), -1);
    x.element(2, 0, 0);
    x.element(1, 0, 0);
    for (int end : new int[] {LEAST, -1, 2, GREATEST}) {
      for (int how = 0; how <= 3; how++) {
        due.is("make(" + how + ", " + end + ", 0)", x.make(how, end, 0), -1);
        due.is("make(" + how + ", 0, " + end + ")", x.make(how, 0, end), -1);
      }
    }
    for (int how : new int[] {LEAST, -1, 4, GREATEST}) {
      due.is("make(" + how + ", 0, 1)", x.make(how, 0, 1), -2);
    }
    for (int how = 0; how <= 3; how++) {
      due.is("make(" + how + ", 0, 1)", x.make(how, 0, 1), 2 + how);
    }
    due.is("the last made is there", x.make(0, 5, 5), 6);
    due.is("count(11)", x.count(11), 33);
    due.is("count(12)", x.count(12), 4);
  }

  private static void roomOfMake() {
    due.promise(9);
    for (int how = 0; how <= 3; how++) {
      FieldHouse x = Due.square(0, 5);
      x.element(0, 0, 0);
      for (int i = 1; i < 99; i++) {
        x.element(1, 0, 0);
      }
      due.is("the last of 100 by make(" + how + ")", x.make(how, 0, 1), 99);
      due.is("one too many by make(" + how + ")", x.make(how, 0, 1), -6);
      due.is("of the last, too", x.make(how, 99, 1), -6);
      due.is("element 100 is nobody", x.make(how, 100, 1), -1);
      due.is("no room is told behind other", x.make(4, 0, 1), -2);
      due.is("no room is told behind what is not whole", x.make(3, 1, 0), -3);
      due.is("count(0)", x.count(0), 100);
    }
  }

  private static void orderOfMake() {
    due.promise(9);
    due.is("no field ahead of nobody", new FieldHouse().make(4, 0, 0), -3);
    FieldHouse x = Due.square(0, 5);
    x.element(0, 0, 0);
    x.element(-300, 300, 0);
    due.is("nobody ahead of other", x.make(4, 0, 2), -1);
    due.is("nobody ahead of by 0", x.make(3, 2, 0), -1);
    due.is("other ahead of by 0", x.make(4, 1, 0), -2);
    due.is("other ahead of below", x.make(-1, 1, 1), -2);
    due.is("below ahead of above", x.make(0, 1, 1), -4);
    for (int i = 2; i < 100; i++) {
      x.element(300, -300, 0);
    }
    due.is("below ahead of no room", x.make(0, 1, 1), -4);
    due.is("above at place 0, below at place 1, no room", x.make(0, 2, 2), -4);
    due.is("below at a difference, no room", x.make(1, 1, 2), -4);
  }

  private static void placesOfCoordinate() {
    due.promise(10);
    for (int n = 2; n <= 3; n++) {
      FieldHouse x = n == 2 ? Due.square(0, 5) : Due.cube(0, 0, -2);
      due.is("no elements yet", x.coordinate(0, 0), Due.TOLD + 1);
      x.element(-300, 300, 0);
      x.element(1, 2, n == 2 ? 0 : -300);
      due.is("coordinate(0, 0)", x.coordinate(0, 0), -300);
      due.is("coordinate(0, 1)", x.coordinate(0, 1), 300);
      due.is("coordinate(1, n - 1)", x.coordinate(1, n - 1), n == 2 ? 2 : -300);
      for (int end : new int[] {LEAST, -1, n, GREATEST}) {
        due.is("coordinate(0, " + end + ")", x.coordinate(0, end), Due.TOLD + 1);
      }
      for (int end : new int[] {LEAST, -1, 2, GREATEST}) {
        due.is("coordinate(" + end + ", 0)", x.coordinate(end, 0), Due.TOLD + 1);
        due.is("coordinate(" + end + ", " + end + ")", x.coordinate(end, end), Due.TOLD + 1);
      }
      due.is("count(11)", x.count(11), 13);
    }
    FieldHouse full = Due.fullHouse(3);
    due.is("coordinate(99, 0) of a full house", full.coordinate(99, 0), 99);
    due.is("coordinate(100, 0) of a full house", full.coordinate(100, 0), Due.TOLD + 1);
  }

  private static void normsAre(FieldHouse x, int a, int b, int c, long... want) {
    int i = x.element(a, b, c);
    for (int what = 0; what < 3; what++) {
      due.is("norm(" + what + ") of " + a + " " + b + " " + c, x.norm(i, what), want[what]);
    }
  }

  private static void normsOfTheLeast() {
    due.promise(11);
    FieldHouse x = Due.square(0, 5);
    normsAre(x, 0, 0, 0, 0, 0, 0);
    normsAre(x, 1, 0, 0, 1, 2, -2);
    normsAre(x, -1, 0, 0, 1, -2, 2);
    FieldHouse y = Due.cube(0, 0, -2);
    normsAre(y, 0, 0, 0, 0, 0, 0);
    normsAre(y, 1, 0, 0, 1, 3, 3);
    normsAre(y, -1, 0, 0, -1, -3, 3);
    normsAre(y, 0, 1, 0, 2, 0, 0);
  }

  private static void normsOfTheGreatest() {
    due.promise(11);
    // 220 and -218 are the norms of 1 + w1 and of w1 - 1.
    normsAre(Due.square(-19, 200), 300, 300, 0, 220L * 90000, 6300, -6300);
    normsAre(Due.square(-19, 200), -300, -300, 0, 220L * 90000, -6300, 6300);
    normsAre(Due.square(-20, -199), -300, 300, 0, -218L * 90000, 5400, -5400);
    // 1 + r + r r has the norm 259: the product of the polynomial's values at both third roots of 1.
    normsAre(Due.cube(-3, -8, 9), 300, 300, 300, 259L * 27000000, 300L * (3 + 3 + 25), normMiddle(-3, -8, 9));
    normsAre(Due.cube(-3, -8, 9), -300, -300, -300, -259L * 27000000, -300L * (3 + 3 + 25), normMiddle(-3, -8, 9));
    normsAre(Due.cube(0, 0, -2), -300, -300, -300, -27000000L, -900, -270000L);
  }

  /** Of 300 (1 + r + r r): half of what the square of its trace is above the trace of its square. */
  private static long normMiddle(long a, long b, long c) {
    long[] s = {3, -a, a * a - 2 * b, 0, 0};
    s[3] = -a * s[2] - b * s[1] - 3 * c;
    s[4] = -a * s[3] - b * s[2] - c * s[1];
    long trace = s[0] + s[1] + s[2];
    long ofSquare = s[0] + 2 * s[1] + 3 * s[2] + 2 * s[3] + s[4];
    return 90000 * (trace * trace - ofSquare) / 2;
  }

  private static void placesOfNorm() {
    due.promise(11);
    FieldHouse x = Due.square(0, 5);
    due.is("no elements yet", x.norm(0, 0), Due.TOLD_LONG + 1);
    x.element(1, 1, 0);
    for (int end : new int[] {LEAST, -1, 1, GREATEST}) {
      due.is("norm(" + end + ", 0)", x.norm(end, 0), Due.TOLD_LONG + 1);
      due.is("norm(" + end + ", 3): -1 is told first", x.norm(end, 3), Due.TOLD_LONG + 1);
    }
    for (int what : new int[] {LEAST, -1, 3, GREATEST}) {
      due.is("norm(0, " + what + ")", x.norm(0, what), Due.TOLD_LONG + 2);
    }
    due.is("count(11)", x.count(11), 9);
    due.is("count(12)", x.count(12), 4);
  }

  private static void unitIs(FieldHouse x, int a, int b, int c, int want) {
    due.is("unit " + a + " " + b + " " + c, x.unit(x.element(a, b, c)), want);
  }

  private static void unitsByNorm() {
    due.promise(12);
    FieldHouse x = Due.square(0, -2);
    due.is("no elements yet", x.unit(0), -1);
    unitIs(x, 0, 0, 0, 0);
    unitIs(x, 0, 1, 0, 0);
    unitIs(x, 2, 1, 0, 0);
    unitIs(x, 1, 1, 0, 1);
    unitIs(x, 3, 2, 0, 1);
    unitIs(x, 3, -2, 0, 1);
    unitIs(x, -239, 169, 0, 1);
    unitIs(x, 99, -70, 0, 1);
    for (int end : new int[] {LEAST, -1, 8, GREATEST}) {
      due.is("unit(" + end + ")", x.unit(end), -1);
    }
    due.is("count(11)", x.count(11), 5);
    FieldHouse y = Due.cube(0, 0, -2);
    unitIs(y, 0, 0, 0, 0);
    unitIs(y, 0, 1, 0, 0);
    unitIs(y, 0, -1, 0, 0);
    unitIs(y, -1, 1, 0, 1);
    unitIs(y, 1, -1, 0, 1);
    unitIs(y, 1, 1, 1, 1);
  }

  /** Roots of 1 of every order that there is: 1, 2, 3, 4, 6. */
  private static void unitsByPower() {
    due.promise(12);
    FieldHouse sixth = Due.square(-1, 1);
    unitIs(sixth, 1, 0, 0, 2);
    unitIs(sixth, -1, 0, 0, 2);
    unitIs(sixth, -1, 1, 0, 2);
    unitIs(sixth, 0, -1, 0, 2);
    unitIs(sixth, 0, 1, 0, 2);
    unitIs(sixth, 1, -1, 0, 2);
    unitIs(sixth, 1, 1, 0, 0);
    FieldHouse fourth = Due.square(0, 1);
    unitIs(fourth, 0, 1, 0, 2);
    unitIs(fourth, 0, -1, 0, 2);
    unitIs(fourth, 1, 1, 0, 0);
    FieldHouse far = Due.square(-20, 101);
    unitIs(far, -10, 1, 0, 2);
    unitIs(far, 10, -1, 0, 2);
    unitIs(far, -9, 1, 0, 0);
    FieldHouse cube = Due.cube(-1, -2, 1);
    unitIs(cube, 1, 0, 0, 2);
    unitIs(cube, -1, 0, 0, 2);
    unitIs(cube, 0, 1, 0, 1);
    unitIs(cube, 2, 0, 0, 0);
  }
}
