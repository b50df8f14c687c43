import java.lang.reflect.InvocationTargetException;
import java.lang.reflect.Method;
import java.util.ArrayList;
import java.util.Arrays;
import java.util.List;
import java.util.Random;

/** Runs of drawn calls: the program and the model must answer alike. The seeds are fixed. */
public final class ModelTest {
  private static final int[] PRIMES = {2, 3, 5, 7, 11, 13, 17, 19, 23, 29, 31, 37, 41, 43, 47, 53, 59, 61, 67, 71, 73,
      79, 83, 89, 97};
  /** A call, and what its arguments are drawn of. */
  private static final String[] CALLS = {"fault what", "coin small", "has person prime", "purse person what",
      "worth person", "change small what", "may person person price", "pay person person price",
      "changes person small", "changes person small", "tax person", "strike person prime", "strike person prime",
      "treasury prime", "readOut number", "year any times", "judge tray what", "perform tray", "prices person",
      "price person many", "gap person", "nearest person number", "half person", "fewest person price",
      "fewest person price", "together set price bit", "between person number number", "dear person prime", "gainer",
      "grows person small", "swap person person bit", "swap person person what", "common person person",
      "least person person", "friends", "stolen person by rest", "fitting tray small small", "fitting tray small k",
      "trial n bit", "squares odd bit", "rounds n times bit", "factor n small", "factor n k", "smooth fewer prime",
      "primesTo fewer", "witness n", "order fewer fewer", "owe person person debt", "owe person person debt",
      "owed person person", "struck", "tray tray small many", "write tray small deal", "write tray small deal",
      "write tray small fit", "pour tray", "image small", "restore small", "count small"};

  private final Random random;
  private final PrimeCoins program = new PrimeCoins();
  private final Model model = new Model();
  private int[] mint = {2};

  private ModelTest(long seed) {
    // Seeds that lie near each other would begin alike.
    random = new Random(seed * 0x9E3779B97F4A7C15L);
  }

  public static void main(String[] args) {
    for (int run = 0; run < 300; run++) {
      new ModelTest(run).oneRun(run);
    }
    for (int run = 0; run < 400; run++) {
      new ModelTest(1000 + run).texts();
    }
    for (int run = 0; run < 40; run++) {
      new ModelTest(5000 + run).greatSearches();
    }
    Check.close("ModelTest");
  }

  private void oneRun(int run) {
    if (random.nextInt(5) > 0) {
      tell(goodText());
    }
    for (int i = 0; i < 480; i++) {
      if (random.nextInt(25) == 0) {
        fillTray(random.nextInt(3));
      }
      if (random.nextInt(40) == 0) {
        manyDebts();
      }
      if (random.nextInt(70) == 0) {
        tell(random.nextInt(3) == 0 ? badText() : goodText());
      }
      String[] call = CALLS[random.nextInt(CALLS.length)].split(" ");
      Object[] drawn = new Object[call.length - 1];
      for (int k = 0; k < drawn.length; k++) {
        drawn[k] = draw(call[k + 1]);
      }
      both(call[0], drawn);
    }
    allOfIt();
  }

  private void fillTray(int how) {
    int tray = random.nextInt(4);
    int many = random.nextInt(how == 0 ? 9 : 5);
    both("tray", tray, 1 + random.nextInt(3), how == 0 ? many : many - many % 2);
    for (int i = 0; i < many; i++) {
      long rest = i % 2 == 0 ? 2 + random.nextInt(5) : random.nextInt(3);
      both("write", tray, i, how == 0 ? deal() : rest);
    }
    for (int what = 0; what < 3; what++) {
      both("judge", tray, what);
    }
    for (int n = 1; n <= 4 && how > 0; n++) {
      both("fitting", tray, n, -1);
      both("fitting", tray, n, random.nextInt(4));
    }
    both("perform", tray);
  }

  private void manyDebts() {
    for (int i = random.nextInt(20); i > 0; i--) {
      both("owe", draw("person"), draw("person"), 2 + random.nextInt(30));
    }
    both("count", 6);
    both("struck");
    both("count", 6);
  }

  private void allOfIt() {
    for (int what = 0; what < 8; what++) {
      both("count", what);
    }
    for (int p = 0; p < 5; p++) {
      both("worth", p);
      for (int q = 0; q < 5; q++) {
        both("owed", p, q);
      }
    }
    for (int k = 0; k < 8; k++) {
      both("coin", k);
      both("change", k, 0);
      both("change", k, 1);
    }
    both("readOut", 999999937);
  }

  private void both(String name, Object... args) {
    String told = name + Arrays.toString(args);
    Check.due(told, ask(program, name, args), ask(model, name, args));
  }

  private static String ask(Object whom, String name, Object[] args) {
    for (Method m : whom.getClass().getMethods()) {
      if (!m.getName().equals(name) || m.getParameterCount() != args.length) {
        continue;
      }
      Object[] fit = new Object[args.length];
      for (int i = 0; i < args.length; i++) {
        long v = ((Number) args[i]).longValue();
        fit[i] = m.getParameterTypes()[i] == int.class ? (Object) (int) v : (Object) v;
      }
      try {
        return String.valueOf(m.invoke(whom, fit));
      } catch (InvocationTargetException e) {
        return "throws." + e.getCause().getClass().getSimpleName();
      } catch (IllegalAccessException e) {
        return "no access";
      }
    }
    return "no " + name;
  }

  private void tell(String text) {
    byte[] bytes = text.getBytes(java.nio.charset.StandardCharsets.ISO_8859_1);
    for (int i = 0; i < bytes.length; i += 20) {
      Object[] five = new Object[5];
      for (int k = 0; k < 5; k++) {
        int v = 0;
        for (int j = 0; j < 4; j++) {
          int at = i + 4 * k + j;
          v = v << 8 | (at < bytes.length ? bytes[at] & 255 : 32);
        }
        five[k] = v;
      }
      both("feed", five);
    }
    both("town", bytes.length);
    both("fault", 0);
    both("fault", 1);
  }

  // ---- what is drawn

  private Object draw(String of) {
    switch (of) {
      case "person":
        return random.nextInt(15) == 0 ? random.nextInt(9) - 2 : random.nextInt(Math.max(1, model.count(2)));
      case "prime":
        return random.nextInt(8) == 0 ? random.nextInt(120) - 5 : mint[random.nextInt(mint.length)];
      case "what":
        return random.nextInt(5) - (random.nextInt(8) == 0 ? 2 : 0);
      case "bit":
        return random.nextInt(20) == 0 ? random.nextInt(6) - 2 : random.nextInt(2);
      case "small":
        return random.nextInt(8) - (random.nextInt(6) == 0 ? 2 : 0);
      case "many":
        return random.nextInt(34) - 1;
      case "times":
        return random.nextInt(12) == 0 ? random.nextInt(110) - 5 : random.nextInt(30);
      case "any":
        return random.nextInt();
      case "tray":
        return random.nextInt(15) == 0 ? random.nextInt(7) - 2 : random.nextInt(4);
      case "set":
        return random.nextInt(10) == 0 ? random.nextInt(70) - 20 : random.nextInt(16);
      case "price":
        return price();
      case "number":
        return number();
      case "by":
        return random.nextInt(8) == 0 ? number() : 2 + random.nextInt(12);
      case "rest":
        return random.nextInt(8) == 0 ? number() : random.nextInt(6);
      case "k":
        return random.nextInt(12) - 2;
      case "n":
        return random.nextInt(3) == 0 ? random.nextInt(1000000040) : random.nextInt(4000) - 3;
      case "odd":
        return random.nextInt(8) == 0 ? random.nextInt(1100000) : 2 * random.nextInt(20000) + 1;
      case "fewer":
        return random.nextInt(20) == 0 ? random.nextInt(11000) : random.nextInt(500) - 3;
      case "debt":
        return random.nextInt(10) == 0 ? number() : 1 + random.nextInt(60);
      case "deal":
        return random.nextInt(10) == 0 ? number() : deal();
      case "fit":
        return random.nextInt(7);
      default:
        throw new IllegalStateException(of);
    }
  }

  private long deal() {
    int people = Math.max(1, model.count(2));
    int from = random.nextInt(people);
    int prime = mint[random.nextInt(mint.length)];
    if (random.nextInt(8) > 0 && from < model.count(2) && model.purse(from, 0) > 0) {
      prime = model.purse(from, 2 + random.nextInt(2));
    }
    return 1000L * from + 100 * random.nextInt(people) + prime;
  }

  private long price() {
    if (random.nextInt(12) == 0) {
      return number();
    }
    long price = 1;
    for (int i = random.nextInt(random.nextInt(8) + 1); i > 0; i--) {
      price *= mint[random.nextInt(mint.length)];
    }
    return price;
  }

  private long number() {
    switch (random.nextInt(6)) {
      case 0:
        return random.nextLong();
      case 1:
        return random.nextInt(2000000) - 1000;
      case 2:
        return (random.nextBoolean() ? Long.MIN_VALUE : Long.MAX_VALUE) / (1 + random.nextInt(2));
      case 3:
        return 1000000000L - 2 + random.nextInt(5);
      default:
        return random.nextInt(300);
    }
  }

  // ---- texts

  private String goodText() {
    List<Integer> left = new ArrayList<>();
    int bound = random.nextBoolean() ? 6 : PRIMES.length;
    for (int i = 0; i < bound; i++) {
      left.add(PRIMES[i]);
    }
    java.util.Collections.shuffle(left, random);
    mint = new int[1 + random.nextInt(Math.min(8, left.size()))];
    StringBuilder text = new StringBuilder("mint");
    for (int i = 0; i < mint.length; i++) {
      mint[i] = left.get(i);
      text.append(' ').append(mint[i]);
    }
    text.append(';');
    int purses = random.nextInt(6);
    int changes = random.nextInt(7);
    while (purses + changes > 0) {
      if (random.nextInt(purses + changes) < purses) {
        purses--;
        onePurse(text);
      } else {
        changes--;
        oneChange(text);
      }
    }
    return text.toString();
  }

  private int one() {
    return mint[random.nextInt(mint.length)];
  }

  private void onePurse(StringBuilder text) {
    text.append(random.nextBoolean() ? "\npurse" : "purse");
    int left = random.nextInt(10);
    while (left > 0) {
      int many = 1 + random.nextInt(left);
      text.append(' ').append(one());
      if (many > 1 || random.nextInt(5) == 0) {
        text.append(" times ").append(many);
      }
      left -= many;
    }
    text.append(random.nextBoolean() ? " ; " : ";");
  }

  private void oneChange(StringBuilder text) {
    text.append("change");
    for (int i = 1 + random.nextInt(3); i > 0; i--) {
      text.append(' ').append(one());
    }
    text.append(" into");
    for (int i = 1 + random.nextInt(3); i > 0; i--) {
      text.append(' ').append(one());
    }
    text.append(';');
  }

  private String badText() {
    StringBuilder text = new StringBuilder(goodText());
    String[] parts = {";", " ", "purse", " times ", "change", " into ", "mint", " 2", " 4", " 97", " 9", " 10", " 0",
        "7", "00", "x", "A", "\u00e9", "\t", "\n", "\0"};
    for (int i = 1 + random.nextInt(3); i > 0; i--) {
      int at = random.nextInt(text.length() + 1);
      switch (random.nextInt(4)) {
        case 0:
          text.setLength(at);
          break;
        case 1:
          text.delete(at, Math.min(text.length(), at + 1 + random.nextInt(4)));
          break;
        case 2:
          text.insert(at, parts[random.nextInt(parts.length)]);
          break;
        default:
          int to = random.nextInt(text.length() + 1);
          text.insert(at, text.substring(Math.min(at, to), Math.min(Math.max(at, to), Math.min(at, to) + 30)));
          break;
      }
    }
    return text.length() > 700 ? text.substring(0, 700) : text.toString();
  }

  private void texts() {
    for (int i = 0; i < 20; i++) {
      tell(badText());
      for (int what = 0; what < 8; what++) {
        both("count", what);
      }
      for (int p = 0; p < 5; p++) {
        both("worth", p);
      }
      both("change", 0, 0);
      both("change", 5, 1);
    }
  }

  /** Eight kinds and six changes: some of these meet more than 3,000 PURSES. */
  private void greatSearches() {
    mint = new int[] {2, 3, 5, 7, 11, 13, 17, 97};
    StringBuilder text = new StringBuilder("mint 2 3 5 7 11 13 17 97;");
    boolean straight = random.nextBoolean();
    for (int p = 0; p < 3; p++) {
      text.append("purse 2 times ").append(9 - random.nextInt(straight ? 2 : 6)).append(';');
    }
    for (int k = 0; k < 6; k++) {
      int from = !straight && random.nextInt(3) == 0 ? one() : mint[k];
      text.append("change ").append(from).append(" into ").append(mint[k + 1]);
      if (random.nextInt(straight ? 9 : 3) == 0) {
        text.append(' ').append(one());
      }
      text.append(';');
    }
    tell(text.toString());
    for (int i = 0; i < 12; i++) {
      both("fewest", random.nextInt(3), price());
      both("fewest", random.nextInt(3), 17 * price());
      both("fewest", random.nextInt(3), 97 * price());
      both("grows", random.nextInt(3), random.nextInt(7));
    }
  }
}
