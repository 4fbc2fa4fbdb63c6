import java.util.Random;

/** Any calls at all, in any order: none throws, each refusal is counted once, and the same calls answer the same. */
public final class AnyCallsTest {
  private static final Due due = new Due();
  private static final int[] FAR = {Integer.MIN_VALUE, Integer.MAX_VALUE, -1000001, 1000000, 1000001, 65536, -65536};

  public static void main(String[] args) {
    for (int seed = 0; seed < 3000; seed++) {
      long once = run(seed);
      due.is("run " + seed + " once more", run(seed), once);
    }
    due.end();
  }

  private static long run(int seed) {
    Random random = new Random(seed);
    FieldHouse x = new FieldHouse();
    int[] refused = new int[7];
    int[] counts = new int[2];
    long all = 0;
    for (int call = 0; call < 500; call++) {
      int which = call < 2 && seed % 9 > 0 ? random.nextInt(2) : random.nextInt(27);
      if (which < 2 && random.nextInt(4) > 0 && call > 2) {
        which = 7 + random.nextInt(20);
      }
      long answer = answer(x, which, random, counts);
      follow(which, answer, counts);
      int code = code(which, answer);
      if (code < 0) {
        refused[-code]++;
      }
      all = all * 1000003 + answer;
    }
    for (int i = 1; i <= 6; i++) {
      due.is("run " + seed + ": count(" + (10 + i) + ")", x.count(10 + i), refused[i]);
    }
    due.is("run " + seed + ": elements", x.count(0), counts[0]);
    due.is("run " + seed + ": ideals", x.count(1), counts[1]);
    due.holds("run " + seed + ": room", counts[0] <= 100 && counts[1] <= 80);
    return all;
  }

  /** How many elements and ideals there are after the call, so that the house need not be asked. */
  private static void follow(int which, long answer, int[] counts) {
    if (answer < 0) {
      return;
    }
    if (which < 2) {
      counts[0] = 0;
      counts[1] = 0;
    } else if (which == 6 || which == 7) {
      counts[0]++;
    } else if (which == 11 || which == 12 || which == 19) {
      counts[1]++;
    }
  }

  private static int code(int which, long answer) {
    boolean longAnswer = which == 3 || which == 9 || which == 25;
    boolean mayBeBelow = longAnswer || which == 5 || which == 8 || which == 22;
    long base = longAnswer ? Due.TOLD_LONG : Due.TOLD;
    if (mayBeBelow) {
      return answer >= base ? (int) (base - answer) : 0;
    }
    return which == 26 ? 0 : (int) Math.min(answer, 0);
  }

  private static int any(Random random, int most) {
    int kind = random.nextInt(40);
    if (kind == 0) {
      return FAR[random.nextInt(FAR.length)];
    }
    if (kind == 1) {
      return random.nextInt();
    }
    return kind < 4 ? -random.nextInt(4) : random.nextInt(most + 1);
  }

  private static int around(Random random, int most) {
    return random.nextInt(25) == 0 ? any(random, most) : random.nextInt(2 * most + 1) - most;
  }

  private static int prime(Random random) {
    return random.nextInt(8) == 0 ? any(random, 100) : Due.PRIME_NUMBERS[random.nextInt(random.nextInt(25) + 1)];
  }

  private static long answer(FieldHouse x, int which, Random r, int[] counts) {
    int e = counts[0];
    int i = counts[1];
    switch (which) {
      case 0: return x.square(around(r, 20), around(r, 200));
      case 1: return x.cube(around(r, 3), around(r, 9), around(r, 9));
      case 2: return x.field(any(r, 4));
      case 3: return x.disc(any(r, 2));
      case 4: return x.basis(any(r, 3), any(r, 4));
      case 5: return x.table(any(r, 2), any(r, 2), any(r, 3));
      case 6: return x.element(around(r, 300), around(r, 30), r.nextBoolean() ? 0 : around(r, 30));
      case 7: return x.make(any(r, 4), any(r, e), any(r, e));
      case 8: return x.coordinate(any(r, e), any(r, 3));
      case 9: return x.norm(any(r, e), any(r, 3));
      case 10: return x.unit(any(r, e));
      case 11: return x.ideal(r.nextInt(3) == 0 ? 1 + r.nextInt(100) : any(r, 1000000), any(r, e));
      case 12: return x.join(any(r, 3), any(r, i), any(r, i));
      case 13: return x.row(any(r, i), any(r, 3), any(r, 3));
      case 14: return x.idealOf(any(r, i), any(r, 3));
      case 15: return x.in(any(r, i), any(r, e));
      case 16: return x.divides(any(r, i), any(r, i));
      case 17: return x.primes(prime(r));
      case 18: return x.prime(prime(r), any(r, 2), any(r, 11));
      case 19: return x.take(prime(r), any(r, 2));
      case 20: return x.times(any(r, i), prime(r), any(r, 1));
      case 21: return x.classes();
      case 22: return x.form(any(r, 20), any(r, 3));
      case 23: return x.classOf(any(r, i));
      case 24: return x.order(any(r, i));
      case 25: return x.first(any(r, 3));
      default: return x.count(any(r, 17));
    }
  }
}
