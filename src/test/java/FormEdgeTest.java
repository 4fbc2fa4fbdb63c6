/** The edges of promises 23 to 27: the least and greatest discriminants, forms with equal ends, units at the limit. */
public final class FormEdgeTest {
  private static final Due due = new Due();
  private static final int LEAST = Integer.MIN_VALUE;
  private static final int GREATEST = Integer.MAX_VALUE;

  public static void main(String[] args) {
    classesOfTheEnds();
    classesRefused();
    formsWithEqualEnds();
    formsAboveZero();
    placesOfForm();
    formRefused();
    classesOfEqualEnds();
    classesFromFar();
    classesOfCycles();
    membersOfClassOf();
    ordersOfTheLeast();
    ordersOfTheGreatest();
    membersOfOrder();
    firstOfTheLeast();
    firstAtTheLimit();
    kindsOfFirst();
    due.end();
  }

  private static void classesAre(int a, int b, long disc, int want) {
    FieldHouse x = Due.square(a, b);
    due.is("disc of square(" + a + ", " + b + ")", x.disc(0), disc);
    due.is("classes of " + disc, x.classes(), want);
    due.is("classes of " + disc + " once more", x.classes(), want);
  }

  private static void classesOfTheEnds() {
    due.promise(23);
    classesAre(1, 1, -3, 1);
    classesAre(0, 1, -4, 1);
    classesAre(1, 200, -799, 16);
    classesAre(1, 198, -791, 32);
    classesAre(-1, -1, 5, 1);
    classesAre(0, -2, 8, 1);
    classesAre(0, -3, 12, 2);
    classesAre(20, -199, 1196, 4);
    classesAre(-12, -199, 940, 12);
    // One field by four polynomials, at the ends of their ranges.
    classesAre(20, 101, -4, 1);
    classesAre(-20, 101, -4, 1);
    classesAre(20, 98, 8, 1);
    classesAre(-20, 98, 8, 1);
  }

  private static void classesRefused() {
    due.promise(23);
    FieldHouse x = new FieldHouse();
    due.is("no field", x.classes(), -3);
    x.cube(-1, -2, 1);
    due.is("degree 3", x.classes(), -2);
    x.square(0, 5);
    due.is("degree 2", x.classes(), 2);
    due.is("count(12)", x.count(12), 1);
    due.is("count(13)", x.count(13), 1);
  }

  private static void formsAre(int a, int b, int... want) {
    FieldHouse x = Due.square(a, b);
    for (int i = 0; i < want.length; i++) {
      due.is("form(" + i / 3 + ", " + i % 3 + ") of " + x.disc(0), x.form(i / 3, i % 3), want[i]);
    }
    due.is("no form more of " + x.disc(0), x.form(want.length / 3, 0), Due.TOLD + 1);
  }

  /** B is not below 0 if its amount is A, or A is C; it may be if neither is. */
  private static void formsWithEqualEnds() {
    due.promise(24);
    formsAre(1, 1, 1, 1, 1);
    formsAre(0, 1, 1, 0, 1);
    formsAre(1, 2, 1, 1, 2);
    formsAre(1, 4, 1, 1, 4, 2, 1, 2);
    formsAre(0, 5, 1, 0, 5, 2, 2, 3);
    formsAre(1, 6, 1, 1, 6, 2, -1, 3, 2, 1, 3);
    formsAre(0, 6, 1, 0, 6, 2, 0, 3);
    formsAre(1, 10, 1, 1, 10, 2, -1, 5, 2, 1, 5, 3, 3, 4);
    formsAre(0, 14, 1, 0, 14, 2, 0, 7, 3, -2, 5, 3, 2, 5);
    formsAre(0, 21, 1, 0, 21, 2, 2, 11, 3, 0, 7, 5, 4, 5);
    FieldHouse x = Due.square(1, 200);
    due.is("the last of -799: A", x.form(15, 0), 16);
    due.is("the last of -799: B", x.form(15, 1), 15);
    due.is("the last of -799: C", x.form(15, 2), 16);
    due.is("no 17th of -799", x.form(16, 0), Due.TOLD + 1);
  }

  /** Both signs of A, the lesser A first, then the lesser B. */
  private static void formsAboveZero() {
    due.promise(24);
    formsAre(-1, -1, -1, 1, 1, 1, 1, -1);
    formsAre(0, -2, -1, 2, 1, 1, 2, -1);
    formsAre(0, -3, -2, 2, 1, -1, 2, 2, 1, 2, -2, 2, 2, -1);
    formsAre(1, -4, -2, 1, 2, -2, 3, 1, -1, 3, 2, 1, 3, -2, 2, 1, -2, 2, 3, -1);
    FieldHouse most = Due.square(19, -192);
    due.is("the field of the most forms", most.disc(0), 1129);
    due.is("the last of 102: A", most.form(101, 0), 25);
    due.is("the last of 102: B", most.form(101, 1), 27);
    due.is("the last of 102: C", most.form(101, 2), -4);
    due.is("no 103rd", most.form(102, 0), Due.TOLD + 1);
    due.is("the first of 102: A", most.form(0, 0), -25);
    due.is("the first of 102: B", most.form(0, 1), 23);
    due.is("the first of 102: C", most.form(0, 2), 6);
  }

  private static void placesOfForm() {
    due.promise(24);
    FieldHouse x = Due.square(0, 5);
    for (int k : new int[] {LEAST, -1, 2, GREATEST}) {
      for (int what = 0; what < 3; what++) {
        due.is("form(" + k + ", " + what + ")", x.form(k, what), Due.TOLD + 1);
      }
    }
    for (int what : new int[] {LEAST, -1, 3, GREATEST}) {
      due.is("form(0, " + what + ")", x.form(0, what), Due.TOLD + 2);
      due.is("form(-1, " + what + "): -2 is told first", x.form(-1, what), Due.TOLD + 2);
      due.is("form(2, " + what + "): -2 is told first", x.form(2, what), Due.TOLD + 2);
    }
    due.is("form(1, 2)", x.form(1, 2), 3);
    due.is("count(11)", x.count(11), 12);
    due.is("count(12)", x.count(12), 12);
  }

  private static void formRefused() {
    due.promise(24);
    FieldHouse x = new FieldHouse();
    due.is("no field", x.form(0, 0), Due.TOLD + 3);
    due.is("no field ahead of what", x.form(0, 3), Due.TOLD + 3);
    x.cube(-1, -2, 1);
    due.is("degree 3", x.form(0, 0), Due.TOLD + 2);
    due.is("degree 3 ahead of nobody", x.form(-1, 0), Due.TOLD + 2);
    due.is("count(12)", x.count(12), 2);
    due.is("count(13)", x.count(13), 2);
  }

  /** Ideals whose forms have equal ends, but B below 0: they are of the class of the form with B above 0. */
  private static void classesOfEqualEnds() {
    due.promise(25);
    FieldHouse x = Due.square(1, 4);
    due.is("2, -1, 2 is of 2, 1, 2", x.classOf(x.take(2, 0)), 1);
    due.is("2, 1, 2", x.classOf(x.take(2, 1)), 1);
    FieldHouse y = Due.square(2, 6);
    due.is("2, -2, 3 is of 2, 2, 3", y.classOf(y.take(2, 0)), 1);
    FieldHouse third = Due.square(1, 1);
    third.element(0, 0, 0);
    due.is("1, -1, 1 is of 1, 1, 1", third.classOf(third.ideal(1, 0)), 0);
    FieldHouse z = Due.square(1, 6);
    due.is("2, -1, 3 is a class of its own", z.classOf(z.take(2, 0)), 1);
    due.is("2, 1, 3, too", z.classOf(z.take(2, 1)), 2);
    FieldHouse last = Due.square(1, 200);
    int two = last.take(2, 0);
    int four = last.join(1, two, two);
    int sixteen = last.join(1, four, four);
    due.is("norm 16 of -799", last.idealOf(sixteen, 0), 16);
    due.is("16, -15 or 15, 16 is the last class of -799", last.classOf(sixteen), 15);
  }

  /** All whole numbers are of one class, by each basis of the field and each multiple. */
  private static void classesFromFar() {
    due.promise(25);
    int[][] fields = {{20, 101, 0}, {-20, 101, 0}, {0, 1, 0}, {20, 98, 0}, {-20, 98, 0}, {0, -2, 0}, {5, 5, 0},
        {-5, 5, 0}, {19, 89, 0}, {-19, 89, 0}, {20, -199, 2}, {-20, -199, 2}, {19, -192, 30}, {-19, -192, 30}};
    for (int[] one : fields) {
      FieldHouse x = Due.square(one[0], one[1]);
      x.element(0, 0, 0);
      String of = " of square(" + one[0] + ", " + one[1] + ")";
      due.is("class of all" + of, x.classOf(x.ideal(1, 0)), one[2]);
      due.is("class of 1000" + of, x.classOf(x.ideal(1000, 0)), one[2]);
      due.is("order of 1000" + of, x.order(x.ideal(1000, 0)), 1);
    }
  }

  /** The least number of the forms of the cycle; a form and that of the opposite sign may be of two. */
  private static void classesOfCycles() {
    due.promise(25);
    FieldHouse x = Due.square(0, -3);
    x.element(0, 0, 0);
    x.element(0, 1, 0);
    due.is("all of 12: 1 2 -2 and -2 2 1", x.classOf(x.ideal(1, 0)), 0);
    due.is("the root of 3: -1 2 2 and 2 2 -1", x.classOf(x.ideal(3, 1)), 1);
    due.is("over 2: 2 2 -1", x.classOf(x.take(2, 0)), 1);
    FieldHouse y = Due.square(0, -2);
    y.element(0, 1, 0);
    due.is("the root of 2: of all, as a unit has norm -1", y.classOf(y.ideal(2, 0)), 0);
    due.is("its order", y.order(0), 1);
  }

  private static void membersOfClassOf() {
    due.promise(25);
    FieldHouse x = new FieldHouse();
    due.is("no field", x.classOf(0), -3);
    x.cube(-1, -2, 1);
    x.take(2, 0);
    due.is("degree 3", x.classOf(0), -2);
    due.is("degree 3 ahead of nobody", x.classOf(1), -2);
    x.square(0, 5);
    due.is("no ideals yet", x.classOf(0), -1);
    x.take(2, 0);
    due.is("the first", x.classOf(0), 1);
    for (int end : new int[] {LEAST, -1, 1, GREATEST}) {
      due.is("classOf(" + end + ")", x.classOf(end), -1);
    }
    due.is("count(11)", x.count(11), 5);
    due.is("count(12)", x.count(12), 2);
    due.is("ideal 79 of a full house", Due.fullHouse(2).classOf(79), 0);
    due.is("ideal 80 of a full house", Due.fullHouse(2).classOf(80), -1);
  }

  private static void ordersOfTheLeast() {
    due.promise(26);
    FieldHouse x = Due.square(0, 5);
    x.element(0, 0, 0);
    x.element(1, 1, 0);
    due.is("all", x.order(x.ideal(1, 0)), 1);
    due.is("multiples of 1000", x.order(x.ideal(1000, 0)), 1);
    due.is("multiples of 1 + r", x.order(x.ideal(6, 1)), 1);
    due.is("over 2", x.order(x.take(2, 0)), 2);
    due.is("over 3", x.order(x.take(3, 1)), 2);
  }

  /** Whatever the norm: the powers of these are far above 1000000. */
  private static void ordersOfTheGreatest() {
    due.promise(26);
    FieldHouse x = Due.square(1, 180);
    int two = x.take(2, 0);
    int four = x.join(1, two, two);
    int sixteen = x.join(1, four, four);
    int eight = x.join(1, four, two);
    int most = x.join(1, x.join(1, sixteen, sixteen), x.join(1, sixteen, x.join(1, sixteen, eight)));
    due.is("norm 2 to the 19", x.idealOf(most, 0), 524288);
    due.is("its order", x.order(most), 31);
    due.is("order of 2", x.order(two), 31);
    FieldHouse y = Due.square(1, 198);
    due.is("32 classes", y.classes(), 32);
    due.is("of over 3 all of them", y.order(y.take(3, 0)), 32);
    due.is("of over 2 half of them", y.order(y.take(2, 1)), 16);
    due.is("of over 7", y.order(y.take(7, 0)), 2);
    FieldHouse z = Due.square(5, -198);
    due.is("above 0: disc", z.disc(0), 817);
    due.is("above 0: the greatest order", z.order(z.take(2, 0)), 10);
    FieldHouse narrow = Due.square(0, -3);
    narrow.element(0, 1, 0);
    due.is("the root of 3 is not of all's cycle", narrow.order(narrow.ideal(3, 0)), 2);
  }

  private static void membersOfOrder() {
    due.promise(26);
    FieldHouse x = new FieldHouse();
    due.is("no field", x.order(0), -3);
    x.cube(-1, -2, 1);
    x.take(2, 0);
    due.is("degree 3", x.order(0), -2);
    due.is("degree 3 ahead of nobody", x.order(1), -2);
    x.square(0, 5);
    due.is("no ideals yet", x.order(0), -1);
    x.take(2, 0);
    due.is("the first", x.order(0), 2);
    for (int end : new int[] {LEAST, -1, 1, GREATEST}) {
      due.is("order(" + end + ")", x.order(end), -1);
    }
    due.is("no ideal is made", x.count(1), 1);
    due.is("count(11)", x.count(11), 5);
    due.is("count(12)", x.count(12), 2);
  }

  private static void firstIs(int a, int b, long... want) {
    FieldHouse x = Due.square(a, b);
    for (int what = 0; what < 3; what++) {
      due.is("first(" + what + ") of square(" + a + ", " + b + ")", x.first(what), want[what]);
    }
  }

  /** The least above 1, not its opposite, its part of 1 or its square; r is the greater root. */
  private static void firstOfTheLeast() {
    due.promise(27);
    firstIs(-1, -1, 0, 1, -1);
    firstIs(1, -1, 1, 1, -1);
    firstIs(-3, 1, -1, 1, -1);
    firstIs(3, 1, 2, 1, -1);
    firstIs(0, -2, 1, 1, -1);
    firstIs(0, -3, 2, 1, 1);
    firstIs(20, 98, 11, 1, -1);
    firstIs(-20, 98, -9, 1, -1);
    // 415 and 24 times the root of 299, which is r and 10.
    firstIs(20, -199, 655, 24, 1);
    firstIs(-20, -199, 175, 24, 1);
  }

  /** Coordinates up to 1000000000000000 are told; if one is above, none of the three is. */
  private static void firstAtTheLimit() {
    due.promise(27);
    long room = Due.TOLD_LONG + 6;
    firstIs(-3, -160, 991278549876059L, 88209784190760L, 1);
    firstIs(-1, -162, room, room, room);
    firstIs(-11, -182, 934751493313459L, 103073312660952L, 1);
    firstIs(-9, -192, room, room, room);
    firstIs(19, -140, room, room, room);
    firstIs(19, -102, room, room, room);
    firstIs(19, -180, room, room, room);
    FieldHouse x = Due.square(-9, -192);
    due.is("what ahead of room", x.first(3), Due.TOLD_LONG + 2);
    due.is("room", x.first(1), room);
    due.is("count(12)", x.count(12), 1);
    due.is("count(16)", x.count(16), 1);
  }

  private static void kindsOfFirst() {
    due.promise(27);
    FieldHouse x = new FieldHouse();
    due.is("no field", x.first(0), Due.TOLD_LONG + 3);
    due.is("no field ahead of what", x.first(3), Due.TOLD_LONG + 3);
    x.cube(-1, -2, 1);
    due.is("degree 3", x.first(0), Due.TOLD_LONG + 2);
    x.square(1, 1);
    for (int what = 0; what < 3; what++) {
      due.is("disc -3: first(" + what + ")", x.first(what), Due.TOLD_LONG + 2);
    }
    x.square(-1, -1);
    for (int what : new int[] {LEAST, -1, 3, GREATEST}) {
      due.is("disc 5: first(" + what + ")", x.first(what), Due.TOLD_LONG + 2);
    }
    due.is("disc 5: first(2)", x.first(2), -1);
    due.is("count(12)", x.count(12), 8);
    due.is("count(13)", x.count(13), 2);
  }
}
