import java.io.IOException;
import java.lang.reflect.Field;
import java.lang.reflect.Method;
import java.lang.reflect.Modifier;
import java.nio.file.Files;
import java.nio.file.Path;
import java.util.Arrays;
import java.util.HashSet;
import java.util.Set;
import java.util.regex.Matcher;
import java.util.regex.Pattern;

/**
 * How the class is written: those rules of LANGUAGE.md that its text or its members show. The rest (that each index,
 * divisor and loop is looked at) is for a reader. It is run in the project's folder, as it reads the class's text.
 */
public final class LanguageTest {
  private static final Due due = new Due();
  private static final Path SOURCE = Path.of("src/main/java/FieldHouse.java");
  private static final Set<String> IMPORTS = Set.of("java.util.ArrayList", "java.util.Arrays", "java.util.Iterator",
      "java.util.List");
  private static final Set<String> LIBRARY = Set.of("Math.abs", "Math.max", "Math.min", "Math.floorDiv",
      "Math.floorMod", "Arrays.copyOf", "Arrays.copyOfRange", "Arrays.fill", "System.arraycopy");
  private static final String[] NO_WORDS = {"package", "throw", "throws", "try", "catch", "finally", "synchronized",
      "assert", "volatile", "transient", "native", "protected", "Object", "Thread", "Random", "BigInteger"};
  private static final String[] NO_SIGNS = {"->", "::", "while (true)", "for (;;)", "@"};

  public static void main(String[] args) throws IOException {
    String text = withoutRemarks(Files.readString(SOURCE));
    words(text);
    library(text);
    lengths(text);
    Set<Class<?>> classes = new HashSet<>(Arrays.asList(FieldHouse.class.getDeclaredClasses()));
    classes.add(FieldHouse.class);
    due.holds("rule 11: at most twelve classes", classes.size() <= 12);
    for (Class<?> one : classes) {
      members(one);
    }
    due.end();
  }

  private static String withoutRemarks(String text) {
    return text.replaceAll("(?s)/\\*.*?\\*/", "").replaceAll("//[^\n]*", "").replaceAll("\"[^\"\n]*\"", "\"\"");
  }

  private static void words(String text) {
    for (String word : NO_WORDS) {
      due.holds("rules 3, 6, 13: no " + word, !Pattern.compile("\\b" + word + "\\b").matcher(text).find());
    }
    for (String sign : NO_SIGNS) {
      due.holds("rules 2, 9: no " + sign, !text.contains(sign));
    }
    due.holds("rule 2: no class without a name", !Pattern.compile("new \\w+\\([^;{}]*\\) \\{").matcher(text).find());
    due.holds("rule 5: no block of static", !Pattern.compile("static \\{").matcher(text).find());
  }

  private static void library(String text) {
    Matcher imports = Pattern.compile("import ([\\w.]+);").matcher(text);
    while (imports.find()) {
      due.holds("rule 4: import " + imports.group(1), IMPORTS.contains(imports.group(1)));
    }
    Matcher calls = Pattern.compile("\\b(Math|Arrays|System|Long|Integer|Double|String)\\.\\w+").matcher(text);
    while (calls.find()) {
      due.holds("rule 4: " + calls.group(), LIBRARY.contains(calls.group()));
    }
  }

  /** A method begins and ends at the depth of its class's members, with a line for each. */
  private static void lengths(String text) {
    String[] lines = text.split("\n");
    int begun = -1;
    String end = "";
    for (int i = 0; i < lines.length; i++) {
      Matcher head = Pattern.compile("( {2}| {4})(?! )[\\w\\[\\]<> ]*\\w\\([^;]*\\) \\{").matcher(lines[i]);
      if (begun < 0 && head.matches() && !lines[i].contains("class ")) {
        begun = i;
        end = head.group(1) + "}";
      }
      if (begun >= 0 && lines[i].equals(end)) {
        due.holds("rule 11: some sixty lines are enough for" + lines[begun], i - begun < 60);
        begun = -1;
      }
    }
    due.is("each method that begins ends", begun, -1);
  }

  private static void members(Class<?> one) {
    int own = 0;
    for (Field field : one.getDeclaredFields()) {
      boolean isStatic = Modifier.isStatic(field.getModifiers());
      own += isStatic ? 0 : 1;
      due.holds("rule 5: " + field + " is final if static", !isStatic || Modifier.isFinal(field.getModifiers()));
      due.holds("rule 3: " + field, isTaken(field.getType()));
    }
    due.holds("rule 11: at most twenty fields in " + one, own <= 20);
    for (Method method : one.getDeclaredMethods()) {
      due.holds("rule 11: at most seven numbers for " + method, method.getParameterCount() <= 7);
    }
    due.is("rule 2: classes inside " + one, one == FieldHouse.class ? 0 : one.getDeclaredClasses().length, 0);
  }

  private static boolean isTaken(Class<?> type) {
    Class<?> last = type.isArray() ? type.getComponentType() : type;
    return last.isPrimitive() || last == String.class || last.getName().startsWith("FieldHouse");
  }
}
