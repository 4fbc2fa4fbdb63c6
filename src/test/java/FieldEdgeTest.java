/** The edges of promises 1 to 7: a new object, the ranges of the polynomials, the basis, places at the ends of int. */
public final class FieldEdgeTest {
  private static final Due due = new Due();
  private static final int LEAST = Integer.MIN_VALUE;
  private static final int GREATEST = Integer.MAX_VALUE;

  public static void main(String[] args) {
    newObject();
    newObjectAfterRefusals();
    squareRange();
    squareBeyondInt();
    squareProducts();
    cubeRange();
    cubeBeyondInt();
    cubeProducts();
    newFieldEmptiesFullHouse(2);
    newFieldEmptiesFullHouse(3);
    fieldEdges();
    discEdges();
    basisEdges();
    basisPlaces();
    tableEdges();
    due.end();
  }

  private static void newObject() {
    due.promise(1);
    FieldHouse x = new FieldHouse();
    for (int what = 0; what <= 1; what++) {
      due.is("new: count(" + what + ")", x.count(what), 0);
    }
    for (int what = 11; what <= 16; what++) {
      due.is("new: count(" + what + ")", x.count(what), 0);
    }
    due.is("new: field(0)", x.field(0), -3);
    due.is("new: disc(0)", x.disc(0), Due.TOLD_LONG + 3);
    due.is("new: basis(0, 0)", x.basis(0, 0), -3);
    due.is("new: table(0, 0, 0)", x.table(0, 0, 0), Due.TOLD + 3);
    due.is("new: element(0, 0, 0)", x.element(0, 0, 0), -3);
    due.is("new: primes(2)", x.primes(2), -3);
    due.is("new: classes()", x.classes(), -3);
    due.is("new: first(0)", x.first(0), Due.TOLD_LONG + 3);
    due.is("new: count(13) then", x.count(13), 8);
    FieldHouse y = new FieldHouse();
    due.is("a field", x.square(0, 5), 1);
    due.is("another object has none of it", y.field(0), -3);
    due.is("nor its refusals", y.count(13), 1);
  }

  private static void newObjectAfterRefusals() {
    due.promise(1);
    FieldHouse x = new FieldHouse();
    due.is("square(21, 0)", x.square(21, 0), -6);
    due.is("still no field", x.field(0), -3);
    due.is("square(0, -4)", x.square(0, -4), -3);
    due.is("still no field", x.field(0), -3);
    due.is("cube(0, 0, -10)", x.cube(0, 0, -10), -4);
    due.is("still no field", x.field(0), -3);
    due.is("cube(0, 0, 0)", x.cube(0, 0, 0), -3);
    due.is("still no field", x.field(0), -3);
    due.is("count(13)", x.count(13), 6);
    due.is("count(14)", x.count(14), 1);
    due.is("count(16)", x.count(16), 1);
  }

  private static void squareIs(int a, int b, int want) {
    FieldHouse x = new FieldHouse();
    due.is("square(" + a + ", " + b + ")", x.square(a, b), want);
    due.is("degree after square(" + a + ", " + b + ")", x.field(0), want == 1 ? 2 : -3);
  }

  private static void squareRange() {
    due.promise(2);
    int[] a = {-20, 20};
    int[] b = {-200, 200};
    for (int i = 0; i < 4; i++) {
      squareIs(a[i / 2], b[i % 2], 1);
    }
    squareIs(-20, 1, 1);
    squareIs(20, 1, 1);
    squareIs(1, -200, 1);
    squareIs(1, 200, 1);
    squareIs(-21, 1, -4);
    squareIs(21, 1, -6);
    squareIs(1, -201, -4);
    squareIs(1, 201, -6);
    squareIs(-21, -201, -4);
    squareIs(21, 201, -6);
    squareIs(-21, 201, -4);
    squareIs(21, -201, -4);
    squareIs(-21, 200, -4);
    squareIs(20, -201, -4);
    squareIs(-20, 201, -6);
    squareIs(21, -200, -6);
  }

  private static void squareBeyondInt() {
    due.promise(2);
    squareIs(LEAST, 1, -4);
    squareIs(1, LEAST, -4);
    squareIs(GREATEST, 1, -6);
    squareIs(1, GREATEST, -6);
    squareIs(LEAST, GREATEST, -4);
    squareIs(GREATEST, LEAST, -4);
    squareIs(LEAST, LEAST, -4);
    squareIs(GREATEST, GREATEST, -6);
    // By wrapping around, a a - 4 b would be 0 and so a product: the range is told first.
    squareIs(1 << 16, 1 << 30, -6);
    squareIs(-(1 << 16), 1 << 30, -4);
  }

  private static void squareProducts() {
    due.promise(2);
    int[][] products = {{0, 0}, {2, 1}, {-2, 1}, {20, 100}, {-20, 100}, {1, 0}, {-1, 0}, {20, 0}, {-20, 0}, {3, 2},
        {19, 90}, {-19, 90}, {20, 99}, {0, -1}, {0, -4}, {0, -196}, {-1, -182}, {10, -200}, {-10, -200}, {20, -189},
        {-20, -189}};
    for (int[] one : products) {
      squareIs(one[0], one[1], -3);
    }
    int[][] fields = {{0, 1}, {0, -2}, {1, 1}, {-1, -1}, {1, -1}, {2, 2}, {0, 4}, {20, 101}, {20, 98}, {0, -195},
        {0, -197}, {20, -188}, {20, -190}, {3, 1}, {3, 3}};
    for (int[] one : fields) {
      squareIs(one[0], one[1], 1);
    }
    squareIs(-21, 0, -4);
    squareIs(21, 0, -6);
    squareIs(0, -225, -4);
    squareIs(29, 208, -6);
  }

  private static void cubeIs(int a, int b, int c, int want) {
    FieldHouse x = new FieldHouse();
    due.is("cube(" + a + ", " + b + ", " + c + ")", x.cube(a, b, c), want);
    due.is("degree after cube(" + a + ", " + b + ", " + c + ")", x.field(0), want == 1 ? 3 : -3);
  }

  private static void cubeRange() {
    due.promise(3);
    for (int i = 0; i < 8; i++) {
      cubeIs(i / 4 == 0 ? -3 : 3, i / 2 % 2 == 0 ? -9 : 9, i % 2 == 0 ? -9 : 9, 1);
    }
    cubeIs(-4, 1, 1, -4);
    cubeIs(4, 1, 1, -6);
    cubeIs(1, -10, 1, -4);
    cubeIs(1, 10, 1, -6);
    cubeIs(1, 1, -10, -4);
    cubeIs(1, 1, 10, -6);
    cubeIs(4, 9, -10, -4);
    cubeIs(-3, 10, -10, -4);
    cubeIs(3, -10, 10, -4);
    cubeIs(-4, 10, 10, -4);
    cubeIs(4, 10, 10, -6);
    cubeIs(-4, -10, -10, -4);
    cubeIs(4, -9, -9, -6);
    cubeIs(-3, 10, -9, -6);
    cubeIs(-3, -9, 10, -6);
  }

  private static void cubeBeyondInt() {
    due.promise(3);
    cubeIs(LEAST, 1, 1, -4);
    cubeIs(1, LEAST, 1, -4);
    cubeIs(1, 1, LEAST, -4);
    cubeIs(GREATEST, 1, 1, -6);
    cubeIs(1, GREATEST, 1, -6);
    cubeIs(1, 1, GREATEST, -6);
    cubeIs(GREATEST, GREATEST, LEAST, -4);
    cubeIs(LEAST, GREATEST, GREATEST, -4);
    cubeIs(GREATEST, GREATEST, GREATEST, -6);
    cubeIs(LEAST, LEAST, LEAST, -4);
  }

  private static void cubeProducts() {
    due.promise(3);
    int[][] products = {{0, 0, 0}, {3, 9, 0}, {-3, -9, 0}, {-3, 3, -1}, {3, 3, 1}, {0, 0, 1}, {0, 0, -1}, {0, 0, 8},
        {0, 0, -8}, {-3, -9, -5}, {3, -9, 5}, {0, -9, 0}, {1, -9, -9}, {-1, -9, 9}, {0, 1, 2}};
    for (int[] one : products) {
      cubeIs(one[0], one[1], one[2], -3);
    }
    int[][] fields = {{0, 0, 2}, {0, 0, -2}, {0, 0, 9}, {0, 0, -9}, {-3, -9, -4}, {-3, -9, -6}, {3, -9, 4}, {3, -9, 6},
        {-3, 3, 1}, {3, 3, -1}, {0, 1, 1}, {0, 0, 7}};
    for (int[] one : fields) {
      cubeIs(one[0], one[1], one[2], 1);
    }
    cubeIs(-4, 0, 0, -4);
    cubeIs(4, 0, 0, -6);
    cubeIs(0, -10, 0, -4);
    cubeIs(0, 10, 0, -6);
  }

  private static void newFieldEmptiesFullHouse(int degree) {
    due.promise(degree);
    FieldHouse x = Due.fullHouse(degree);
    due.is("a refused square keeps the full house", x.square(2, 1), -3);
    due.is("a refused cube keeps the full house", x.cube(4, 0, 0), -6);
    due.is("elements", x.count(0), 100);
    due.is("ideals", x.count(1), 80);
    due.is("the last element", x.coordinate(99, 0), 99);
    due.is("the last ideal", x.idealOf(79, 1), 80);
    due.is("the same field once more", degree == 2 ? x.square(0, 1) : x.cube(0, 0, -2), 1);
    due.is("no elements", x.count(0), 0);
    due.is("no ideals", x.count(1), 0);
    due.is("no element 0", x.unit(0), -1);
    due.is("no ideal 0", x.idealOf(0, 0), -1);
    due.is("refusals stay: -3", x.count(13), 1);
    due.is("refusals stay: -6", x.count(16), 1);
    due.is("elements begin at 0 again", x.element(7, 0, 0), 0);
    due.is("ideals begin at 0 again", x.ideal(9, 0), 0);
    due.is("its norm", x.idealOf(0, 0), 1);
  }

  private static void fieldEdges() {
    due.promise(4);
    fieldIs(Due.square(1, 1), 2, 1, 0, 0);
    fieldIs(Due.square(-1, -1), 2, 1, 2, 1);
    fieldIs(Due.square(0, 192), 2, 16, 0, 0);
    fieldIs(Due.square(19, -191), 2, 15, 2, 1);
    fieldIs(Due.cube(0, -1, -1), 3, 1, 1, 1);
    fieldIs(Due.cube(-1, -2, 1), 3, 1, 3, 2);
    fieldIs(Due.cube(1, -2, 9), 3, 9, 1, 1);
    fieldIs(Due.cube(-2, -8, 8), 3, 8, 3, 2);
  }

  private static void fieldIs(FieldHouse x, int degree, int index, int reals, int rank) {
    String of = " of disc " + x.disc(1);
    due.is("field(0)" + of, x.field(0), degree);
    due.is("field(1)" + of, x.field(1), index);
    due.is("field(2)" + of, x.field(2), reals);
    due.is("field(3)" + of, x.field(3), rank);
    due.is("field(4)" + of, x.field(4), -2);
    for (int what : Due.ENDS) {
      due.is("field(" + what + ")" + of, x.field(what), -2);
    }
    due.is("count(12)" + of, x.count(12), 4);
  }

  private static void discEdges() {
    due.promise(5);
    discIs(Due.square(1, 1), -3, -3);
    discIs(Due.square(-1, -1), 5, 5);
    discIs(Due.square(1, 200), -799, -799);
    discIs(Due.square(0, 200), -8, -800);
    discIs(Due.square(20, -199), 1196, 1196);
    discIs(Due.square(-20, -200), 12, 1200);
    discIs(Due.cube(0, -1, -1), -23, -23);
    discIs(Due.cube(-1, -2, 1), 49, 49);
    discIs(Due.cube(3, 9, -9), -216, -7776);
    discIs(Due.cube(3, -9, -9), 756, 6804);
  }

  private static void discIs(FieldHouse x, long disc, long polynomial) {
    due.is("disc(0)", x.disc(0), disc);
    due.is("disc(1)", x.disc(1), polynomial);
    due.is("disc(2)", x.disc(2), Due.TOLD_LONG + 2);
    for (int what : Due.ENDS) {
      due.is("disc(" + what + ")", x.disc(what), Due.TOLD_LONG + 2);
    }
    due.is("count(12)", x.count(12), 4);
  }

  /** h, k, l at 0 and at the greatest that they may be. */
  private static void basisEdges() {
    due.promise(6);
    basisIs(Due.square(0, 1), 0, 1);
    basisIs(Due.square(0, 144), 0, 12);
    basisIs(Due.square(10, 133), 11, 12);
    basisIs(Due.square(0, 192), 8, 16);
    basisIs(Due.square(0, 3), 1, 2);
    basisIs(Due.cube(0, 0, -2), 0, 1, 0, 0, 1);
    basisIs(Due.cube(-1, -2, -8), 0, 1, 0, 1, 2);
    basisIs(Due.cube(-3, -9, 3), 1, 2, 3, 0, 4);
    basisIs(Due.cube(0, -4, 8), 0, 2, 0, 0, 4);
    basisIs(Due.cube(1, 7, -7), 0, 1, 4, 4, 5);
    basisIs(Due.cube(-2, -7, -8), 0, 1, 0, 3, 4);
    basisIs(Due.cube(1, -2, 9), 0, 1, 0, 5, 9);
  }

  /** Told are h, d (, k, l, e). */
  private static void basisIs(FieldHouse x, int... want) {
    int n = x.field(0);
    int[] rows = n == 2 ? new int[] {1, 0, 1, want[0], 1, want[1]}
        : new int[] {1, 0, 0, 1, want[0], 1, 0, want[1], want[2], want[3], 1, want[4]};
    for (int i = 0; i < rows.length; i++) {
      int place = i % (n + 1);
      due.is("basis(" + i / (n + 1) + ", " + place + ") of " + x.disc(1), x.basis(i / (n + 1), place), rows[i]);
    }
  }

  private static void basisPlaces() {
    due.promise(6);
    for (int n = 2; n <= 3; n++) {
      FieldHouse x = n == 2 ? Due.square(0, 5) : Due.cube(0, 0, -2);
      due.is("basis(" + (n - 1) + ", " + n + ")", x.basis(n - 1, n), 1);
      due.is("basis(" + n + ", 0)", x.basis(n, 0), -1);
      due.is("basis(" + n + ", " + n + ")", x.basis(n, n), -1);
      due.is("basis(0, " + (n + 1) + ")", x.basis(0, n + 1), -1);
      due.is("basis(" + (n - 1) + ", " + (n + 1) + ")", x.basis(n - 1, n + 1), -1);
      for (int end : Due.ENDS) {
        due.is("basis(" + end + ", 0)", x.basis(end, 0), -1);
        due.is("basis(0, " + end + ")", x.basis(0, end), -1);
        due.is("basis(" + end + ", " + end + ")", x.basis(end, end), -1);
      }
      due.is("count(11)", x.count(11), 13);
    }
  }

  private static void tableEdges() {
    due.promise(7);
    for (int n = 2; n <= 3; n++) {
      FieldHouse x = n == 2 ? Due.square(-19, 200) : Due.cube(-3, -9, -8);
      for (int i = 0; i < n * n; i++) {
        due.is("table(0, " + i / n + ", " + i % n + ")", x.table(0, i / n, i % n), i / n == i % n ? 1 : 0);
        due.is("table(" + i / n + ", 0, " + i % n + ")", x.table(i / n, 0, i % n), i / n == i % n ? 1 : 0);
      }
      for (int end : new int[] {Integer.MIN_VALUE, -1, n, Integer.MAX_VALUE}) {
        due.is("table(" + end + ", 0, 0)", x.table(end, 0, 0), Due.TOLD + 1);
        due.is("table(0, " + end + ", 0)", x.table(0, end, 0), Due.TOLD + 1);
        due.is("table(0, 0, " + end + ")", x.table(0, 0, end), Due.TOLD + 1);
      }
      due.is("count(11)", x.count(11), 12);
    }
    due.is("w1 w1 is 19 w1 less 200, at 0", Due.square(-19, 200).table(1, 1, 0), -200);
    due.is("w1 w1 is 19 w1 less 200, at 1", Due.square(-19, 200).table(1, 1, 1), 19);
  }
}
