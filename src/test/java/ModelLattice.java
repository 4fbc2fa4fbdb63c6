import java.math.BigInteger;
import java.util.ArrayList;
import java.util.Arrays;
import java.util.List;

/** Sets of vectors of whole numbers by rows in the document's form: 0 behind place i, above 0 there, lesser ahead. */
final class ModelLattice {
  final BigInteger[][] rows;

  /** All sums of whole numbers times the vectors, which must be n of the full rank at the least. */
  ModelLattice(List<BigInteger[]> vectors, int n) {
    rows = new BigInteger[n][];
    List<BigInteger[]> left = new ArrayList<>();
    for (BigInteger[] vector : vectors) {
      left.add(vector.clone());
    }
    for (int place = n - 1; place >= 0; place--) {
      rows[place] = takeOut(left, place);
    }
    for (int i = 1; i < n; i++) {
      for (int j = i - 1; j >= 0; j--) {
        subtract(rows[i], floor(rows[i][j], rows[j][j]), rows[j]);
      }
    }
  }

  /** Makes all but one 0 at the place, each less by the least again and again, and takes that one out. */
  private static BigInteger[] takeOut(List<BigInteger[]> left, int place) {
    while (true) {
      BigInteger[] least = null;
      boolean alone = true;
      for (BigInteger[] vector : left) {
        if (vector[place].signum() != 0) {
          alone = alone && least == null;
          least = least == null || vector[place].abs().compareTo(least[place].abs()) < 0 ? vector : least;
        }
      }
      if (alone) {
        left.remove(least);
        return least[place].signum() > 0 ? least : negative(least);
      }
      for (BigInteger[] vector : left) {
        if (vector != least) {
          subtract(vector, vector[place].divide(least[place]), least);
        }
      }
    }
  }

  private static BigInteger[] negative(BigInteger[] vector) {
    BigInteger[] other = new BigInteger[vector.length];
    for (int k = 0; k < vector.length; k++) {
      other[k] = vector[k].negate();
    }
    return other;
  }

  private static void subtract(BigInteger[] from, BigInteger many, BigInteger[] vector) {
    for (int k = 0; k < from.length; k++) {
      from[k] = from[k].subtract(many.multiply(vector[k]));
    }
  }

  private static BigInteger floor(BigInteger x, BigInteger y) {
    return x.subtract(x.mod(y)).divide(y);
  }

  boolean has(BigInteger[] vector) {
    BigInteger[] left = vector.clone();
    for (int i = rows.length - 1; i >= 0; i--) {
      if (left[i].mod(rows[i][i]).signum() != 0) {
        return false;
      }
      subtract(left, left[i].divide(rows[i][i]), rows[i]);
    }
    return true;
  }

  boolean hasAll(ModelLattice other) {
    for (BigInteger[] row : other.rows) {
      if (!has(row)) {
        return false;
      }
    }
    return true;
  }

  boolean same(ModelLattice other) {
    return Arrays.deepEquals(rows, other.rows);
  }

  /** How many classes of vectors there are that differ by what is in it. */
  BigInteger norm() {
    BigInteger product = BigInteger.ONE;
    for (int i = 0; i < rows.length; i++) {
      product = product.multiply(rows[i][i]);
    }
    return product;
  }

  static ModelLattice of(long[][] numbers) {
    List<BigInteger[]> vectors = new ArrayList<>();
    for (long[] one : numbers) {
      vectors.add(vector(one));
    }
    return new ModelLattice(vectors, numbers.length);
  }

  static BigInteger[] vector(long... numbers) {
    BigInteger[] vector = new BigInteger[numbers.length];
    for (int k = 0; k < numbers.length; k++) {
      vector[k] = BigInteger.valueOf(numbers[k]);
    }
    return vector;
  }
}
