/**
 * What the tests share: they tell each answer that is not the one due, and end with exit code 1 if there was one.
 * No test makes more than 512 calls on one object: what later calls answer is free.
 */
final class Due {
  static final int TOLD = 2000000000;
  static final long TOLD_LONG = 4000000000000000000L;
  static final int[] PRIME_NUMBERS = {2, 3, 5, 7, 11, 13, 17, 19, 23, 29, 31, 37, 41, 43, 47, 53, 59, 61, 67, 71, 73,
      79, 83, 89, 97};

  /** Numbers that are no place, no member and no kind anywhere. */
  static final int[] ENDS = {Integer.MIN_VALUE, -1, Integer.MAX_VALUE};

  private int asked;
  private int wrong;
  private String where = "";

  /** The promise to which the answers from here on belong. */
  void promise(int number) {
    where = "promise " + number + ": ";
  }

  void is(String call, long got, long want) {
    asked++;
    if (got != want) {
      wrong++;
      if (wrong <= 50) {
        System.out.println(where + call + " answered " + got + ", due is " + want);
      }
    }
  }

  void holds(String what, boolean so) {
    is(what, so ? 1 : 0, 1);
  }

  void end() {
    System.out.println(asked + " answers looked at, " + wrong + " not as due");
    if (wrong != 0) {
      System.exit(1);
    }
  }

  static FieldHouse square(int a, int b) {
    FieldHouse house = new FieldHouse();
    house.square(a, b);
    return house;
  }

  static FieldHouse cube(int a, int b, int c) {
    FieldHouse house = new FieldHouse();
    house.cube(a, b, c);
    return house;
  }

  /** 100 elements, i and w1 times i, and 80 ideals, the multiples of i + 1; of the root of -1 or the third of 2. */
  static FieldHouse fullHouse(int degree) {
    FieldHouse house = degree == 2 ? square(0, 1) : cube(0, 0, -2);
    for (int i = 0; i < 100; i++) {
      house.element(i, i, 0);
    }
    for (int i = 0; i < 80; i++) {
      house.ideal(i + 1, 0);
    }
    return house;
  }
}
