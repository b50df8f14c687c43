import java.lang.reflect.InvocationTargetException;
import java.lang.reflect.Method;
import java.util.ArrayList;
import java.util.Comparator;
import java.util.List;
import java.util.Random;

/** Whatever the arguments, in whatever state: a call throws what its face tells, nothing else, and ends. */
public final class ThrowsTest {
  private static final long[] BOUNDS = {Integer.MIN_VALUE, Integer.MIN_VALUE + 1, -1000, -2, -1, 0, 1, 2, 3, 4, 5, 6, 7,
      8, 9, 29, 30, 31, 59, 60, 61, 89, 97, 98, 99, 100, 699, 700, 701, 999, 1000, 1001, 5000, 5001, 10000, 10001, 1000000,
      1000001, 999999937, 1000000000, 1000000001, Integer.MAX_VALUE - 1, Integer.MAX_VALUE};
  private static final long[] FAR = {Long.MIN_VALUE, Long.MIN_VALUE + 1, -(1L << 32), 1L << 32, (1L << 32) + 2,
      1L << 62, 760231058654565217L, Long.MAX_VALUE - 1, Long.MAX_VALUE};
  private static final String[] TEXTS = {"", "mint 2;", "mint 97;purse 97 times 9;purse;change 97 into 97 97;",
      "mint 2 3 5 7 11 13 17 19;purse 2 3 5 7 11 13 17 19 2;purse 19 times 9;purse;purse 2;purse 3 times 5;"
      + "change 2 into 3;change 3 into 5;change 5 into 7 7;change 7 11 into 2 2 2;change 19 into 2;change 2 2 2 into 97;",
      "mint 2 3 5 7 11 13 17 19;purse 2 3 5 7 11 13 17 19 2;purse 19 times 9;purse;purse 2;purse 3 times 5;"
      + "change 2 into 3;change 3 into 5;change 5 into 7 7;change 7 11 into 2 2 2;change 19 into 2;change 2 2 2 into 19;"};

  private final Random random;
  private final PrimeCoins x = new PrimeCoins();

  private ThrowsTest(int seed) {
    random = new Random(seed * 0x9E3779B97F4A7C15L);
  }

  public static void main(String[] args) {
    List<Method> calls = new ArrayList<>();
    for (Method m : PrimeCoins.class.getDeclaredMethods()) {
      if (java.lang.reflect.Modifier.isPublic(m.getModifiers())) {
        calls.add(m);
      }
    }
    // Reflection tells no order, and the draws must be the same each time.
    calls.sort(Comparator.comparing(Method::getName));
    for (int run = 0; run < 300; run++) {
      new ThrowsTest(run).oneRun(calls, TEXTS[run % TEXTS.length]);
    }
    Check.close("ThrowsTest");
  }

  private void oneRun(List<Method> calls, String text) {
    Check.town(x, text);
    for (int i = 0; i < 450; i++) {
      ask(calls.get(random.nextInt(calls.size())));
    }
  }

  private void ask(Method m) {
    Object[] args = new Object[m.getParameterCount()];
    for (int k = 0; k < args.length; k++) {
      long v = drawn(m.getParameterTypes()[k] == long.class);
      args[k] = m.getParameterTypes()[k] == long.class ? (Object) v : (Object) (int) v;
    }
    String told = m.getName() + java.util.Arrays.toString(args);
    try {
      m.invoke(x, args);
      Check.due(told, true, true);
    } catch (InvocationTargetException e) {
      Check.due(told + " may throw " + e.getCause(), List.of(m.getExceptionTypes()).contains(e.getCause().getClass()), true);
    } catch (IllegalAccessException e) {
      Check.due(told + " is there", false, true);
    }
  }

  private long drawn(boolean great) {
    int how = random.nextInt(10);
    if (how < 5) {
      return random.nextInt(5);
    }
    if (how < 8 || !great) {
      return BOUNDS[random.nextInt(BOUNDS.length)];
    }
    return how == 8 ? FAR[random.nextInt(FAR.length)] : random.nextLong();
  }
}
