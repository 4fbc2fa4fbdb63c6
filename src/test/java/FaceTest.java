import java.lang.reflect.Constructor;
import java.lang.reflect.Field;
import java.lang.reflect.Method;
import java.lang.reflect.Modifier;
import java.util.Arrays;
import java.util.HashSet;
import java.util.Set;
import java.util.TreeSet;

/** The public face: just the document's members are to be seen, and no hidden method bears the name of one. */
public final class FaceTest {
  private static final Due due = new Due();
  private static final String[] FACE = {"int square(int,int)", "int cube(int,int,int)", "int field(int)",
      "long disc(int)", "int basis(int,int)", "int table(int,int,int)", "int element(int,int,int)",
      "int make(int,int,int)", "int coordinate(int,int)", "long norm(int,int)", "int unit(int)", "int ideal(int,int)",
      "int join(int,int,int)", "int row(int,int,int)", "int idealOf(int,int)", "int in(int,int)",
      "int divides(int,int)", "int primes(int)", "int prime(int,int,int)", "int take(int,int)",
      "int times(int,int,int)", "int classes()", "int form(int,int)", "int classOf(int)", "int order(int)",
      "long first(int)", "int count(int)"};

  public static void main(String[] args) {
    Set<String> open = new TreeSet<>();
    Set<String> names = new HashSet<>();
    for (Method method : FieldHouse.class.getDeclaredMethods()) {
      if (!Modifier.isPrivate(method.getModifiers())) {
        due.holds(method + " is public", Modifier.isPublic(method.getModifiers()));
        open.add(signature(method));
        names.add(method.getName());
      }
    }
    due.holds("the face is " + open, open.equals(new TreeSet<>(Arrays.asList(FACE))));
    for (Method method : FieldHouse.class.getDeclaredMethods()) {
      if (Modifier.isPrivate(method.getModifiers())) {
        due.holds(method + " bears a name of its own", !names.contains(method.getName()));
      }
    }
    for (Field field : FieldHouse.class.getDeclaredFields()) {
      due.holds(field + " is private", Modifier.isPrivate(field.getModifiers()));
      due.holds(field + " is final if static",
          !Modifier.isStatic(field.getModifiers()) || Modifier.isFinal(field.getModifiers()));
    }
    Constructor<?>[] constructors = FieldHouse.class.getDeclaredConstructors();
    due.is("constructors", constructors.length, 1);
    due.holds("it is public and takes nothing",
        Modifier.isPublic(constructors[0].getModifiers()) && constructors[0].getParameterCount() == 0);
    due.holds("public and final", Modifier.isPublic(FieldHouse.class.getModifiers())
        && Modifier.isFinal(FieldHouse.class.getModifiers()));
    for (Class<?> inside : FieldHouse.class.getDeclaredClasses()) {
      due.holds(inside + " is static and hidden", Modifier.isStatic(inside.getModifiers())
          && !Modifier.isPublic(inside.getModifiers()) && !Modifier.isProtected(inside.getModifiers()));
    }
    due.end();
  }

  private static String signature(Method method) {
    StringBuilder text = new StringBuilder();
    text.append(method.getReturnType().getName()).append(' ').append(method.getName()).append('(');
    Class<?>[] types = method.getParameterTypes();
    for (int i = 0; i < types.length; i++) {
      text.append(i > 0 ? "," : "").append(types[i].getName());
    }
    return text.append(')').toString();
  }
}
