import java.io.IOException;
import java.lang.reflect.Constructor;
import java.lang.reflect.Field;
import java.lang.reflect.Method;
import java.lang.reflect.Modifier;
import java.nio.file.Files;
import java.nio.file.Path;
import java.util.Arrays;
import java.util.TreeSet;

/** The class has the document's face and nothing else that shows. */
public final class FaceTest {
  private FaceTest() {
  }

  public static void main(String[] args) throws IOException {
    TreeSet<String> told = new TreeSet<>();
    for (String line : Files.readAllLines(Path.of("../shared/DOC.md"))) {
      if (line.startsWith("    public ") && line.endsWith(";")) {
        told.add(plain(line));
      }
    }
    Check.due("members", shown(), told);
    Check.due("how many", told.size(), 55);
    Check.due("final", Modifier.isFinal(PrimeCoins.class.getModifiers()), true);
    for (Class<?> inside : PrimeCoins.class.getDeclaredClasses()) {
      int m = inside.getModifiers();
      Check.due(inside + " is static and no more than package-visible",
          Modifier.isStatic(m) && !Modifier.isPublic(m) && !Modifier.isProtected(m), true);
    }
    Check.close("FaceTest");
  }

  /** int f(int, long) throws E: the names of parameters don't count. */
  private static String plain(String line) {
    return line.trim().replace("public ", "").replaceAll("(int|long) \\w+(?=[,)])", "$1").replace(";", "");
  }

  private static TreeSet<String> shown() throws IOException {
    TreeSet<String> out = new TreeSet<>();
    for (Field f : PrimeCoins.class.getDeclaredFields()) {
      if (!Modifier.isPrivate(f.getModifiers())) {
        out.add(Modifier.toString(f.getModifiers()).replace("public ", "") + " " + f.getType() + " " + f.getName()
            + " = " + constant(f));
      }
    }
    for (Constructor<?> c : PrimeCoins.class.getDeclaredConstructors()) {
      if (!Modifier.isPrivate(c.getModifiers())) {
        out.add(c.getName() + types(c.getParameterTypes()));
      }
    }
    for (Method m : PrimeCoins.class.getDeclaredMethods()) {
      if (!Modifier.isPrivate(m.getModifiers()) && !m.isSynthetic()) {
        String thrown = names(m.getExceptionTypes());
        out.add(m.getReturnType() + " " + m.getName() + types(m.getParameterTypes())
            + (thrown.isEmpty() ? "" : " throws " + thrown));
      }
    }
    return out;
  }

  private static String constant(Field f) throws IOException {
    try {
      return String.valueOf(f.get(null));
    } catch (IllegalAccessException e) {
      throw new IOException(e);
    }
  }

  private static String types(Class<?>[] all) {
    return "(" + names(all) + ")";
  }

  private static String names(Class<?>[] all) {
    return String.join(", ", Arrays.stream(all).map(Class::getSimpleName).toList());
  }
}
