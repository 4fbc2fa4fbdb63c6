/** Promises 2 and 3: a field that comes after another in one object answers as the first of a new object does. */
public final class FieldAfterFieldTest {
  private static final Due due = new Due();
  private static final int[][] FIELDS = {{0, 5}, {1, 198}, {-1, -1}, {0, -79}, {-12, -199}, {-9, -192}, {0, 192},
      {0, 0, -2}, {-1, -2, -8}, {-3, -9, 3}, {-1, -2, 1}};

  public static void main(String[] args) {
    for (int[] first : FIELDS) {
      for (int[] second : FIELDS) {
        due.promise(second.length);
        FieldHouse used = new FieldHouse();
        open(used, first);
        tour(used);
        open(used, second);
        FieldHouse fresh = new FieldHouse();
        open(fresh, second);
        String want = tour(fresh);
        due.holds("field " + name(second) + " after " + name(first), tour(used).equals(want));
      }
    }
    due.end();
  }

  private static String name(int[] field) {
    return field[0] + " " + field[1] + (field.length == 3 ? " " + field[2] : "");
  }

  private static void open(FieldHouse x, int[] field) {
    String opened = "field " + name(field) + " is opened";
    due.is(opened, field.length == 2 ? x.square(field[0], field[1]) : x.cube(field[0], field[1], field[2]), 1);
  }

  /** Some of every call, less than 250 of them, that leave something in every row that an object may keep. */
  private static String tour(FieldHouse x) {
    StringBuilder all = new StringBuilder();
    int n = x.field(0);
    all.append(n).append(' ').append(x.count(0)).append(' ').append(x.count(1));
    tellElements(x, n, all);
    tellIdeals(x, n, all);
    tellForms(x, all);
    for (int what = 0; what < 4; what++) {
      all.append(' ').append(x.field(what)).append(' ').append(x.disc(what % 2));
    }
    for (int i = 0; i < n * n; i++) {
      all.append(' ').append(x.table(n - 1, i / n, i % n)).append(' ').append(x.basis(i / n, i % n + 1));
    }
    return all.toString();
  }

  private static void tellElements(FieldHouse x, int n, StringBuilder all) {
    x.element(3, 2, n == 2 ? 0 : -1);
    x.element(-1, 5, n == 2 ? 0 : 7);
    for (int how = 0; how < 4; how++) {
      all.append(' ').append(x.make(how, how < 3 ? 0 : 2, 1));
    }
    int last = x.count(0) - 1;
    for (int k = 0; k < 3 * n; k++) {
      all.append(' ').append(x.coordinate(last - k / n, k % n));
    }
    for (int what = 0; what < 3; what++) {
      all.append(' ').append(x.norm(0, what)).append(' ').append(x.norm(last, what));
    }
    x.element(-1, 0, 0);
    all.append(' ').append(x.unit(0)).append(' ').append(x.unit(last + 1));
  }

  private static void tellIdeals(FieldHouse x, int n, StringBuilder all) {
    x.ideal(12, 0);
    x.take(2, 0);
    x.ideal(7, 1);
    for (int how = 0; how < 3; how++) {
      all.append(' ').append(x.join(how, 0, 1)).append(' ').append(x.in(how, 0)).append(' ').append(x.divides(1, how));
    }
    int last = x.count(1) - 1;
    for (int i = 0; i < n * n; i++) {
      all.append(' ').append(x.row(last, i / n, i % n)).append(' ').append(x.prime(5, 0, 2 + i));
    }
    for (int what = 0; what < 3; what++) {
      all.append(' ').append(x.idealOf(last, what)).append(' ').append(x.idealOf(1, what));
    }
    for (int p : new int[] {97, 3, 2}) {
      all.append(' ').append(x.primes(p)).append(' ').append(x.times(0, p, 0)).append(' ').append(x.prime(p, 0, 1));
    }
  }

  private static void tellForms(FieldHouse x, StringBuilder all) {
    all.append(' ').append(x.classes());
    for (int i = 0; i < 12; i++) {
      all.append(' ').append(x.form(i / 3, i % 3));
    }
    for (int i = 0; i < 3; i++) {
      all.append(' ').append(x.classOf(i)).append(' ').append(x.order(i)).append(' ').append(x.first(i));
    }
  }
}
