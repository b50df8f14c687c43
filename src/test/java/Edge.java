import java.lang.reflect.InvocationTargetException;
import java.lang.reflect.Method;
import java.util.NoSuchElementException;
import java.util.TreeMap;

/** What the tests of edges share: full looks at an object, and calls that change nothing of it. */
abstract class Edge {
  interface Maker {
    PrimeCoins make();
  }

  interface Asker {
    Object ask(PrimeCoins x);
  }

  static final Class<NoSuchElementException> NSE = NoSuchElementException.class;
  static final Class<IllegalArgumentException> IAE = IllegalArgumentException.class;
  static final Class<IllegalStateException> ISE = IllegalStateException.class;
  static final Class<IndexOutOfBoundsException> IOOBE = IndexOutOfBoundsException.class;
  static final int NONE = -1;
  static final int[] FAR = {Integer.MIN_VALUE, Integer.MAX_VALUE};

  // ---- running

  /** Each method that is named behind a promise is one test. */
  static void runAll(Class<?> edges, TreeMap<Integer, Integer> perPromise) {
    TreeMap<String, Method> inOrder = new TreeMap<>();
    for (Method m : edges.getDeclaredMethods()) {
      if (m.getName().startsWith("promise")) {
        inOrder.put(m.getName(), m);
      }
    }
    for (Method m : inOrder.values()) {
      perPromise.merge(Integer.parseInt(m.getName().substring(7, 9)), 1, Integer::sum);
      int before = Check.asked();
      Check.name(m.getName());
      try {
        m.invoke(null);
      } catch (InvocationTargetException e) {
        due("threw " + e.getCause(), true, false);
      } catch (IllegalAccessException e) {
        due("can't be run", true, false);
      }
      due("asks something", Check.asked() > before, true);
    }
    Check.name("");
  }

  // ---- answers

  static void due(String what, Object got, Object want) {
    Check.due(what, got, want);
  }

  /** The call throws so, and all stays as it was. */
  static void refused(Class<? extends Exception> want, Maker maker, Asker call) {
    stays("throws." + want.getSimpleName(), maker, call);
  }

  /** The call answers so, and all stays as it was: as in an object that wasn't asked. */
  static void stays(Object want, Maker maker, Asker call) {
    PrimeCoins asked = maker.make();
    due("the call", Check.answer(() -> call.ask(asked)), want);
    due("what is there then", look(asked), look(maker.make()));
  }

  static void refused(Class<? extends Exception> want, Asker call) {
    refused(want, Edge::rich, call);
  }

  static void stays(Object want, Asker call) {
    stays(want, Edge::rich, call);
  }

  // ---- calls that answer nothing

  static Object tray(PrimeCoins x, int tray, int sort, int many) {
    x.tray(tray, sort, many);
    return "laid";
  }

  static Object image(PrimeCoins x, int i) {
    x.image(i);
    return "made";
  }

  static Object restore(PrimeCoins x, int i) {
    x.restore(i);
    return "restored";
  }

  // ---- objects

  static PrimeCoins fresh() {
    return new PrimeCoins();
  }

  static PrimeCoins of(String text) {
    return Check.of(text);
  }

  /** Something of everything: worths 12, 9 and 3; tray 3 is MISSING, tray 2 empty, image 1 alone is made. */
  static PrimeCoins rich() {
    PrimeCoins x = of("mint 5 2 3;purse 2 2 3 5;purse 3 3;purse;change 2 2 into 5;change 3 into 2 2 2;");
    x.owe(0, 1, 6);
    x.owe(1, 0, 35);
    x.owe(2, 1, 7);
    x.image(1);
    x.tax(0);
    x.strike(2, 3);
    x.owe(0, 2, 4);
    Check.row(x, 0, 2, 102, 1003, 203);
    Check.row(x, 1, 1, 10, 4);
    x.tray(2, 0, 0);
    Check.town(x, "mint 4;");
    Check.feed(x, "mint 7;purse 7 7;");
    return x;
  }

  // ---- looks

  /** Some 250 calls; the object isn't what it was then. */
  static String look(PrimeCoins x) {
    String told = x.fault(0) + " " + x.fault(1) + " " + x.count(7) + "\n" + kept(x);
    return told + "tape " + x.town(x.count(7)) + " " + x.fault(0) + " " + x.fault(1) + "\n" + townOf(x);
  }

  /** All but the tape and the FAULT. */
  static String kept(PrimeCoins x) {
    StringBuilder out = new StringBuilder(townOf(x));
    for (int t = 0; t < 4; t++) {
      out.append("tray ").append(trayOf(x, t)).append('\n');
    }
    for (int i = 0; i < 3; i++) {
      int image = i;
      out.append(Check.answer(() -> restore(x, image))).append('\n').append(townOf(x));
    }
    return out.toString();
  }

  static String townOf(PrimeCoins x) {
    StringBuilder out = new StringBuilder("town");
    for (int what = 0; what < 7; what++) {
      out.append(' ').append(x.count(what));
    }
    for (int c = 0; c < x.count(1); c++) {
      int prime = x.coin(c);
      out.append("\ncoin ").append(prime).append(" kept ").append(x.treasury(prime)).append(" had");
      for (int p = 0; p < x.count(2); p++) {
        out.append(' ').append(x.has(p, prime));
      }
    }
    for (int p = 0; p < x.count(2); p++) {
      out.append("\nowes");
      for (int q = 0; q < x.count(2); q++) {
        out.append(' ').append(x.owed(p, q));
      }
    }
    for (int k = 0; k < x.count(3); k++) {
      out.append("\nchange ").append(x.change(k, 0)).append(' ').append(x.change(k, 1));
    }
    return out.append('\n').toString();
  }

  /** What can be told of its numbers, then its sort and places, for which it is written upon. */
  private static String trayOf(PrimeCoins x, int t) {
    StringBuilder out = new StringBuilder();
    for (int what = 0; what < 3; what++) {
      int asked = what;
      out.append(Check.answer(() -> x.judge(t, asked))).append(' ');
    }
    for (int n = 1; n < 3; n++) {
      int asked = n;
      out.append(Check.answer(() -> x.fitting(t, asked, NONE))).append(' ');
    }
    for (int i = 0; i < 4; i++) {
      int place = i;
      out.append(Check.answer(() -> x.write(t, place, 0x0102030405060708L))).append(' ');
    }
    return out.toString();
  }
}
