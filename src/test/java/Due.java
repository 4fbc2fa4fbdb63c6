/** What the tests share: they tell each answer that is not the one due, and end with exit code 1 if there was one. */
final class Due {
  static final int TOLD = 2000000000;
  static final long TOLD_LONG = 4000000000000000000L;
  static final int[] PRIME_NUMBERS = {2, 3, 5, 7, 11, 13, 17, 19, 23, 29, 31, 37, 41, 43, 47, 53, 59, 61, 67, 71, 73,
      79, 83, 89, 97};

  private int asked;
  private int wrong;

  void is(String call, long got, long want) {
    asked++;
    if (got != want) {
      wrong++;
      if (wrong <= 50) {
        System.out.println(call + " answered " + got + ", due is " + want);
      }
    }
  }

  void holds(String what, boolean so) {
    is(what, so ? 1 : 0, 1);
  }

  void end() {
    System.out.println(asked + " answers looked at, " + wrong + " not as due");
    if (wrong != 0) {
      System.exit(1);
    }
  }

  static FieldHouse square(int a, int b) {
    FieldHouse house = new FieldHouse();
    house.square(a, b);
    return house;
  }

  static FieldHouse cube(int a, int b, int c) {
    FieldHouse house = new FieldHouse();
    house.cube(a, b, c);
    return house;
  }
}
