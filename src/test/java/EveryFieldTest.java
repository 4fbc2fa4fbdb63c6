/**
 * Promises 2 to 7: every polynomial of the document's ranges that is no product, with what field, disc, basis and table
 * say of it, compared with the second program.
 */
public final class EveryFieldTest {
  private static final Due due = new Due();

  public static void main(String[] args) {
    for (int a = -20; a <= 20; a++) {
      for (int b = -200; b <= 200; b++) {
        FieldHouse house = new FieldHouse();
        if (house.square(a, b) == 1) {
          compare("square(" + a + ", " + b + "): ", house, new ModelField(b, a));
        }
      }
    }
    for (int a = -3; a <= 3; a++) {
      for (int b = -9; b <= 9; b++) {
        for (int c = -9; c <= 9; c++) {
          FieldHouse house = new FieldHouse();
          if (house.cube(a, b, c) == 1) {
            compare("cube(" + a + ", " + b + ", " + c + "): ", house, new ModelField(c, b, a));
          }
        }
      }
    }
    due.end();
  }

  private static void compare(String field, FieldHouse house, ModelField model) {
    int n = model.n;
    int reals = model.reals();
    due.promise(4);
    due.is(field + "field(0)", house.field(0), n);
    due.is(field + "field(1)", house.field(1), model.index);
    due.is(field + "field(2)", house.field(2), reals);
    due.is(field + "field(3)", house.field(3), reals + (n - reals) / 2 - 1);
    due.promise(5);
    due.is(field + "disc(0)", house.disc(0), model.disc);
    due.is(field + "disc(1)", house.disc(1), model.polyDisc);
    due.promise(6);
    for (int i = 0; i < n * (n + 1); i++) {
      int row = i / (n + 1);
      int place = i % (n + 1);
      due.is(field + "basis(" + row + ", " + place + ")", house.basis(row, place), model.basisAt(row, place));
    }
    due.promise(7);
    for (int i = 0; i < n * n * n; i++) {
      long want = model.product(i / n / n, i / n % n, i % n).longValueExact();
      due.is(field + "table " + i, house.table(i / n / n, i / n % n, i % n), want);
    }
  }
}
