import java.lang.reflect.InvocationTargetException;
import java.lang.reflect.Method;
import java.math.BigInteger;
import java.util.Arrays;
import java.util.HashMap;
import java.util.List;
import java.util.Map;
import java.util.Random;

/**
 * All promises: runs of any calls by a fixed seed, each answer compared with that of a second program (ModelHouse),
 * which follows the document's words by plain ways and numbers of any size.
 */
public final class ModelTest {
  private static final Due due = new Due();
  private static final int RUNS = 600;
  private static final int MOST_CALLS = 512;
  private static final int[] FAR = {Integer.MIN_VALUE, -1000001, -1, 1000000, 1000001, Integer.MAX_VALUE};

  /** Each call with its promise and, for each number that it takes, a kind of such numbers. */
  private static final String[] CALLS = {"2 square a b", "3 cube c d d", "4 field 4", "5 disc 2", "6 basis 3 4",
      "7 table 2 2 2", "8 element x x z", "9 make 3 e e", "10 coordinate e 2", "11 norm e 2", "12 unit e",
      "13 ideal m e", "14 join 2 i i", "15 row i 2 2", "16 idealOf i 2", "17 in i e", "18 divides i i", "19 primes p",
      "20 prime p 2 10", "21 take p 1", "22 times i p 1", "23 classes", "24 form f 2", "25 classOf i", "26 order i",
      "27 first 2", "28 count 17"};
  /** Calls that make something, so that a run has something to ask of. */
  private static final String[] MAKING = {"8 element x x z", "9 make 3 e e", "13 ideal m e", "14 join 2 i i",
      "21 take p 1"};

  private static final Map<String, Method> houseMethods = methodsOf(FieldHouse.class);
  private static final Map<String, Method> modelMethods = methodsOf(ModelHouse.class);
  private static final Map<String, ModelField> known = new HashMap<>();

  private final Random random;
  private final FieldHouse house = new FieldHouse();
  private final ModelHouse model = new ModelHouse(known);
  /** The element that was chosen last, so that an ideal's number can be made to fit it. */
  private int chosen;
  private int calls;

  private ModelTest(int seed) {
    random = new Random(seed);
  }

  public static void main(String[] args) {
    for (int seed = 0; seed < RUNS; seed++) {
      new ModelTest(seed).run(seed % 10 == 0);
    }
    due.end();
  }

  private static Map<String, Method> methodsOf(Class<?> owner) {
    Map<String, Method> methods = new HashMap<>();
    for (Method method : owner.getDeclaredMethods()) {
      methods.put(method.getName(), method);
    }
    return methods;
  }

  private void run(boolean withoutField) {
    for (int tries = 0; !withoutField && tries < 3; tries++) {
      call(CALLS[random.nextInt(2)]);
    }
    while (calls < MOST_CALLS - 12) {
      String call = CALLS[random.nextInt(CALLS.length)];
      boolean opens = call.contains("square") || call.contains("cube");
      if (opens && random.nextInt(12) > 0 || random.nextInt(4) == 0) {
        call = MAKING[random.nextInt(MAKING.length)];
      }
      call(call);
    }
  }

  private void call(String call) {
    String[] words = call.split(" ");
    Object[] numbers = new Object[words.length - 2];
    for (int k = numbers.length - 1; k >= 0; k--) {
      numbers[k] = number(words[k + 2]);
    }
    due.promise(Integer.parseInt(words[0]));
    long want = answer(modelMethods.get(words[1]), model, numbers);
    long got = ask(words[1], numbers);
    due.is(model.field == null ? words[1] : told(words[1], numbers), got, want);
    if (got == want && want >= 0) {
      compareMade(words[1], numbers, (int) Math.min(want, 1000));
    }
  }

  private String told(String name, Object[] numbers) {
    return name + Arrays.toString(numbers) + " of the field of discriminant " + model.field.polyDisc;
  }

  private long ask(String name, Object... numbers) {
    calls++;
    return answer(houseMethods.get(name), house, numbers);
  }

  private static long answer(Method method, Object owner, Object... numbers) {
    try {
      return ((Number) method.invoke(owner, numbers)).longValue();
    } catch (IllegalAccessException | InvocationTargetException wrong) {
      throw new IllegalStateException(method.getName() + Arrays.toString(numbers), wrong);
    }
  }

  /** What was made is read whole, so that a wrong one is told where it was made. */
  private void compareMade(String name, Object[] numbers, int made) {
    if (name.equals("element") || name.equals("make")) {
      for (int k = 0; k < model.field.n; k++) {
        due.is(told(name, numbers) + " at " + k, ask("coordinate", made, k), model.coordinate(made, k));
      }
    } else if (name.equals("join") && numbers[0].equals(2)) {
      keepQuotient(numbers, made);
    } else if (name.equals("ideal") || name.equals("join") || name.equals("take")) {
      due.holds(told(name, numbers) + ": rows", Arrays.deepEquals(rowsOf(made), model.ideals.get(made).rows));
    }
  }

  private BigInteger[][] rowsOf(int ideal) {
    int n = model.field.n;
    long[][] rows = new long[n][n];
    for (int i = 0; i < n * n; i++) {
      rows[i / n][i % n] = ask("row", ideal, i / n, i % n);
    }
    BigInteger[][] told = new BigInteger[n][];
    for (int i = 0; i < n; i++) {
      told[i] = ModelLattice.vector(rows[i]);
    }
    return told;
  }

  /** The quotient is the ideal whose product with the second is the first: there is one only. */
  private void keepQuotient(Object[] numbers, int made) {
    BigInteger[][] rows = rowsOf(made);
    ModelLattice quotient = new ModelLattice(List.of(rows), model.field.n);
    due.holds(told("join", numbers) + ": rows in their form", Arrays.deepEquals(rows, quotient.rows));
    due.holds(told("join", numbers) + ": an ideal", model.field.isIdeal(quotient));
    ModelLattice product = model.field.product(quotient, model.ideals.get((Integer) numbers[2]));
    due.holds(told("join", numbers) + ": its product", product.same(model.ideals.get((Integer) numbers[1])));
    model.ideals.add(quotient);
  }

  private int number(String kind) {
    if (random.nextInt(60) == 0) {
      return FAR[random.nextInt(FAR.length)];
    }
    switch (kind) {
      case "a": return around(20);
      case "b": return around(200);
      case "c": return around(3);
      case "d": return around(9);
      case "x": return around(new int[] {1, 3, 12, 60, 300}[random.nextInt(5)]);
      case "z": return model.field != null && model.field.n == 2 && random.nextInt(9) > 0 ? 0 : around(12);
      case "e":
        chosen = memberOf(model.elements.size());
        return chosen;
      case "i": return memberOf(model.ideals.size());
      case "p": return primeNumber();
      case "f": return random.nextInt(new int[] {3, 12, 110}[random.nextInt(3)]);
      case "m": return numberOfIdeal();
      default: return random.nextInt(Integer.parseInt(kind) + 1);
    }
  }

  /** Now and then one beyond the ends. */
  private int around(int most) {
    return random.nextInt(40) == 0 ? (most + 1) * (1 - 2 * random.nextInt(2)) : random.nextInt(2 * most + 1) - most;
  }

  /** Now and then the first that is not there. */
  private int memberOf(int size) {
    return size == 0 || random.nextInt(20) == 0 ? size : random.nextInt(size);
  }

  private int primeNumber() {
    return random.nextInt(12) == 0 ? random.nextInt(104) - 2
        : Due.PRIME_NUMBERS[random.nextInt(1 + random.nextInt(Due.PRIME_NUMBERS.length))];
  }

  /** Mostly the norm of the element or a part of it, as others make the ideal of all. */
  private int numberOfIdeal() {
    if (chosen >= 0 && chosen < model.elements.size() && random.nextInt(4) > 0) {
      long norm = Math.abs(model.norm(chosen, 0));
      for (int p : Due.PRIME_NUMBERS) {
        norm = norm % p == 0 && (norm > 1000000 || random.nextInt(3) == 0) ? norm / p : norm;
      }
      return (int) Math.min(norm, 1000002);
    }
    return 1 + random.nextInt(new int[] {100, 1000, 1000001}[random.nextInt(3)]);
  }
}
