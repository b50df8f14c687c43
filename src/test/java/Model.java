import java.math.BigInteger;
import java.util.ArrayList;
import java.util.Arrays;
import java.util.HashSet;
import java.util.List;
import java.util.Map;
import java.util.NoSuchElementException;
import java.util.Set;
import java.util.TreeMap;
import java.util.TreeSet;
import java.util.regex.Matcher;
import java.util.regex.Pattern;

/** A second telling of the document, slow and by the library, that the program is held against. */
public final class Model {
  /** What an image keeps. */
  private static final class State {
    int lines;
    List<Integer> mint = new ArrayList<>();
    List<TreeMap<Integer, Integer>> purses = new ArrayList<>();
    List<List<List<Integer>>> changes = new ArrayList<>();
    TreeMap<Integer, Integer> treasury = new TreeMap<>();
    TreeMap<Integer, Long> debts = new TreeMap<>();

    State copy() {
      State s = new State();
      s.lines = lines;
      s.mint = new ArrayList<>(mint);
      for (TreeMap<Integer, Integer> purse : purses) {
        s.purses.add(new TreeMap<>(purse));
      }
      s.changes = changes;
      s.treasury = new TreeMap<>(treasury);
      s.debts = new TreeMap<>(debts);
      return s;
    }
  }

  private static final class Fault extends RuntimeException {
    private static final long serialVersionUID = 1;
    final int kind;
    final int place;

    Fault(int kind, int place) {
      this.kind = kind;
      this.place = place;
    }
  }

  private State s = new State();
  private final StringBuilder tape = new StringBuilder();
  private int fault = 0;
  private int place = -1;
  private final State[] images = new State[3];
  private final long[][] trays = new long[4][];
  private final int[] bits = new int[4];

  // ---- small things

  private static void need(boolean well, RuntimeException e) {
    if (!well) {
      throw e;
    }
  }

  private TreeMap<Integer, Integer> person(int p) {
    need(p >= 0 && p < s.purses.size(), new NoSuchElementException());
    return s.purses.get(p);
  }

  private static int size(Map<Integer, Integer> purse) {
    int sum = 0;
    for (int n : purse.values()) {
      sum += n;
    }
    return sum;
  }

  private static BigInteger value(Map<Integer, Integer> purse) {
    BigInteger product = BigInteger.ONE;
    for (Map.Entry<Integer, Integer> e : purse.entrySet()) {
      product = product.multiply(BigInteger.valueOf(e.getKey()).pow(e.getValue()));
    }
    return product;
  }

  private static void add(TreeMap<Integer, Integer> purse, int prime, int n) {
    int now = purse.getOrDefault(prime, 0) + n;
    if (now == 0) {
      purse.remove(prime);
    } else {
      purse.put(prime, now);
    }
  }

  /** null: no PRICE. */
  private TreeMap<Integer, Integer> split(long price) {
    if (price < 1) {
      return null;
    }
    TreeMap<Integer, Integer> out = new TreeMap<>();
    for (int prime : s.mint) {
      while (price % prime == 0) {
        add(out, prime, 1);
        price /= prime;
      }
    }
    return price == 1 ? out : null;
  }

  private static boolean covers(Map<Integer, Integer> purse, Map<Integer, Integer> part) {
    for (int prime : part.keySet()) {
      if (purse.getOrDefault(prime, 0) < part.get(prime)) {
        return false;
      }
    }
    return true;
  }

  private static TreeMap<Integer, Integer> bag(List<Integer> coins) {
    TreeMap<Integer, Integer> out = new TreeMap<>();
    for (int c : coins) {
      add(out, c, 1);
    }
    return out;
  }

  private static boolean smallPrime(int n) {
    return n <= 97 && n > 1 && BigInteger.valueOf(n).isProbablePrime(40);
  }

  // ---- the town

  public int feed(int a, int b, int c, int d, int e) {
    if (tape.length() + 20 > 700) {
      return -1;
    }
    int[] five = {a, b, c, d, e};
    for (int v : five) {
      tape.append((char) (v >> 24 & 255)).append((char) (v >> 16 & 255)).append((char) (v >> 8 & 255)).append((char) (v & 255));
    }
    return tape.length();
  }

  public int town(int n) {
    need(n >= 0 && n <= tape.length(), new IllegalArgumentException());
    String text = tape.substring(0, n);
    tape.setLength(0);
    try {
      s = parse(text);
      fault = 0;
      place = -1;
      return s.lines;
    } catch (Fault f) {
      fault = f.kind;
      place = f.place;
      return -10 - f.kind;
    }
  }

  private static final class Word {
    final String text;
    final int at;

    Word(String text, int at) {
      this.text = text;
      this.at = at;
    }

    boolean isNumber() {
      return text.matches("[0-9]{1,3}");
    }
  }

  private static List<Word> words(String text) {
    List<Word> out = new ArrayList<>();
    Matcher m = Pattern.compile("[\\n ]+|[a-z]+|[0-9]+|;|.", Pattern.DOTALL).matcher(text);
    while (m.find()) {
      if (!m.group().matches("[\\n ]+")) {
        out.add(new Word(m.group(), m.start()));
      }
    }
    out.add(new Word("", text.length()));
    return out;
  }

  /** A machine of states, one TOKEN a turn. */
  private static State parse(String text) {
    State t = new State();
    String where = "start";
    int left = 0;
    TreeMap<Integer, Integer> purse = null;
    int last = 0;
    List<Integer> first = null;
    List<Integer> second = null;
    for (Word w : words(text)) {
      String k = w.isNumber() ? "N" : w.text;
      if (!k.equals("N") && !k.isEmpty() && !k.matches("[a-z]+|;")) {
        throw new Fault(1, w.at);
      }
      int n = w.isNumber() ? Integer.parseInt(w.text) : 0;
      String step = where + " " + k;
      switch (step) {
        case "start mint":
          where = "mint0";
          break;
        case "mint0 N":
        case "mint N":
          need(smallPrime(n) && !t.mint.contains(n), new Fault(3, w.at));
          need(t.mint.size() < 8, new Fault(4, w.at));
          t.mint.add(n);
          where = "mint";
          break;
        case "mint ;":
          t.lines++;
          where = "line";
          break;
        case "line purse":
          need(t.purses.size() < 5, new Fault(4, w.at));
          purse = new TreeMap<>();
          where = "purse0";
          break;
        case "purse0 N":
        case "purse N":
        case "timed N":
          need(t.mint.contains(n), new Fault(3, w.at));
          need(size(purse) < 9, new Fault(4, w.at));
          add(purse, n, 1);
          last = n;
          where = "purse";
          break;
        case "purse times":
          where = "times";
          break;
        case "times N":
          need(n >= 1 && n <= 9, new Fault(3, w.at));
          need(size(purse) + n - 1 <= 9, new Fault(4, w.at));
          add(purse, last, n - 1);
          where = "timed";
          break;
        case "purse0 ;":
        case "purse ;":
        case "timed ;":
          t.purses.add(purse);
          t.lines++;
          where = "line";
          break;
        case "line change":
          need(t.changes.size() < 6, new Fault(4, w.at));
          first = new ArrayList<>();
          second = new ArrayList<>();
          where = "first0";
          break;
        case "first0 N":
        case "first N":
          need(t.mint.contains(n), new Fault(3, w.at));
          need(first.size() < 3, new Fault(4, w.at));
          first.add(n);
          where = "first";
          break;
        case "first into":
          where = "second0";
          break;
        case "second0 N":
        case "second N":
          need(t.mint.contains(n), new Fault(3, w.at));
          need(second.size() < 3, new Fault(4, w.at));
          second.add(n);
          where = "second";
          break;
        case "second ;":
          t.changes.add(Arrays.asList(first, second));
          t.lines++;
          where = "line";
          break;
        case "line ":
          left++;
          break;
        default:
          throw new Fault(2, w.at);
      }
    }
    return t;
  }

  public int fault(int what) {
    return what == 0 ? fault : what == 1 ? place : -1;
  }

  public int coin(int k) {
    need(k >= 0 && k < s.mint.size(), new NoSuchElementException());
    return s.mint.get(k);
  }

  public int has(int p, int prime) {
    return person(p).getOrDefault(prime, 0);
  }

  public int purse(int p, int what) {
    TreeMap<Integer, Integer> purse = person(p);
    need(what >= 0 && what < 4, new IllegalArgumentException());
    if (what == 0) {
      return size(purse);
    }
    if (what == 1) {
      return purse.size();
    }
    return purse.isEmpty() ? 1 : what == 2 ? purse.lastKey() : purse.firstKey();
  }

  public long worth(int p) {
    return value(person(p)).longValueExact();
  }

  public int change(int k, int what) {
    need(k >= 0 && k < s.changes.size(), new NoSuchElementException());
    need(what == 0 || what == 1, new IllegalArgumentException());
    return value(bag(s.changes.get(k).get(what))).intValueExact();
  }

  // ---- deals

  public int may(int p, int q, long price) {
    TreeMap<Integer, Integer> a = person(p);
    TreeMap<Integer, Integer> b = person(q);
    need(p != q, new IllegalArgumentException());
    TreeMap<Integer, Integer> coins = split(price);
    if (coins == null) {
      return 1;
    }
    if (!covers(a, coins)) {
      return 2;
    }
    return size(b) + size(coins) > 9 ? 3 : 0;
  }

  public int pay(int p, int q, long price) {
    int why = may(p, q, price);
    if (why > 0) {
      return -why;
    }
    TreeMap<Integer, Integer> coins = split(price);
    coins.forEach((prime, n) -> {
      add(person(p), prime, -n);
      add(person(q), prime, n);
    });
    return size(coins);
  }

  /** null: it can't be, for 2 or 3 in why. */
  private static TreeMap<Integer, Integer> changed(TreeMap<Integer, Integer> purse, List<List<Integer>> change, int[] why) {
    TreeMap<Integer, Integer> then = new TreeMap<>(purse);
    for (int c : change.get(0)) {
      if (!then.containsKey(c)) {
        why[0] = 2;
        return null;
      }
      add(then, c, -1);
    }
    for (int c : change.get(1)) {
      add(then, c, 1);
    }
    why[0] = 3;
    return size(then) > 9 ? null : then;
  }

  public int changes(int p, int k) {
    TreeMap<Integer, Integer> purse = person(p);
    need(k >= 0 && k < s.changes.size(), new NoSuchElementException());
    int[] why = new int[1];
    TreeMap<Integer, Integer> then = changed(purse, s.changes.get(k), why);
    if (then == null) {
      return -why[0];
    }
    s.purses.set(p, then);
    return size(then);
  }

  public int tax(int p) {
    TreeMap<Integer, Integer> purse = person(p);
    if (purse.isEmpty()) {
      return -1;
    }
    int prime = purse.lastKey();
    add(purse, prime, -1);
    s.treasury.put(prime, Math.min(999, s.treasury.getOrDefault(prime, 0) + 1));
    return prime;
  }

  public int strike(int p, int prime) {
    TreeMap<Integer, Integer> purse = person(p);
    need(s.mint.contains(prime), new IllegalArgumentException());
    need(size(purse) < 9, new IllegalStateException());
    add(purse, prime, 1);
    return size(purse);
  }

  public int treasury(int prime) {
    return s.treasury.getOrDefault(prime, 0);
  }

  public long readOut(long by) {
    need(by >= 1 && by <= 1000000000, new IllegalArgumentException());
    return value(s.treasury).mod(BigInteger.valueOf(by)).longValueExact();
  }

  public int year(int seed, int times) {
    need(times >= 1 && times <= 60, new IllegalArgumentException());
    need(!s.purses.isEmpty(), new IllegalStateException());
    int before = count(4);
    long[] x = {seed & 0xffffffffL};
    for (int i = 0; i < times; i++) {
      int p = draw(x, s.purses.size());
      if (draw(x, 4) == 0) {
        tax(p);
      } else {
        int prime = s.mint.get(draw(x, s.mint.size()));
        if (size(person(p)) < 9) {
          add(person(p), prime, 1);
        }
      }
    }
    return count(4) - before;
  }

  private static int draw(long[] x, int by) {
    x[0] = BigInteger.valueOf(x[0]).multiply(BigInteger.valueOf(1103515245)).add(BigInteger.valueOf(12345))
        .mod(BigInteger.ONE.shiftLeft(32)).longValueExact();
    return (int) (x[0] / 65536 % by);
  }

  private long[] tray(int i) {
    need(i >= 0 && i < 4, new NoSuchElementException());
    need(trays[i] != null, new IllegalStateException());
    return trays[i];
  }

  private static int dealFault(State t, long v) {
    if (v < 0 || v >= 1000L * t.purses.size()) {
      return 1;
    }
    int a = (int) v / 1000;
    int b = (int) v % 1000 / 100;
    int prime = (int) v % 100;
    if (b >= t.purses.size() || a == b || !t.mint.contains(prime)) {
      return 1;
    }
    if (!t.purses.get(a).containsKey(prime)) {
      return 2;
    }
    return size(t.purses.get(b)) == 9 ? 3 : 0;
  }

  /** The place that can't be, and why. */
  private static int[] play(State t, long[] deals) {
    for (int i = 0; i < deals.length; i++) {
      int why = dealFault(t, deals[i]);
      if (why != 0) {
        return new int[] {i, why};
      }
      int prime = (int) (deals[i] % 100);
      add(t.purses.get((int) (deals[i] / 1000)), prime, -1);
      add(t.purses.get((int) (deals[i] / 100 % 10)), prime, 1);
    }
    return new int[] {-1, 0};
  }

  public int judge(int tray, int what) {
    long[] deals = tray(tray);
    need(what >= 0 && what <= 2, new IllegalArgumentException());
    State then = s.copy();
    int[] told = play(then, deals);
    if (what < 2) {
      return told[what];
    }
    int best = -1;
    for (int p = then.purses.size() - 1; p >= 0; p--) {
      if (best < 0 || value(then.purses.get(p)).compareTo(value(then.purses.get(best))) >= 0) {
        best = p;
      }
    }
    return best;
  }

  public int perform(int tray) {
    long[] deals = tray(tray);
    int at = play(s, deals)[0];
    return at < 0 ? deals.length : at;
  }

  // ---- prices

  private TreeSet<Long> priceSet(int p) {
    TreeSet<Long> out = new TreeSet<>();
    out.add(1L);
    person(p).forEach((prime, n) -> {
      for (int i = 0; i < n; i++) {
        for (long v : new ArrayList<>(out)) {
          if (value(person(p)).mod(BigInteger.valueOf(v).multiply(BigInteger.valueOf(prime))).signum() == 0) {
            out.add(v * prime);
          }
        }
      }
    });
    return out;
  }

  public int prices(int p) {
    return priceSet(p).size();
  }

  public long price(int p, int k) {
    List<Long> all = new ArrayList<>(priceSet(p));
    return k >= 0 && k < all.size() ? all.get(k) : -1;
  }

  public long gap(int p) {
    long best = 0;
    for (long v : priceSet(p)) {
      Long next = priceSet(p).higher(v);
      best = Math.max(best, next == null ? 0 : next - v);
    }
    return best;
  }

  public long nearest(int p, long n) {
    BigInteger far = null;
    long best = 0;
    for (long v : priceSet(p)) {
      BigInteger d = BigInteger.valueOf(v).subtract(BigInteger.valueOf(n)).abs();
      if (far == null || d.compareTo(far) < 0) {
        far = d;
        best = v;
      }
    }
    return best;
  }

  public long half(int p) {
    long best = 1;
    for (long v : priceSet(p)) {
      if (BigInteger.valueOf(v).pow(2).compareTo(value(person(p))) <= 0) {
        best = v;
      }
    }
    return best;
  }

  public int fewest(int p, long price) {
    TreeMap<Integer, Integer> purse = person(p);
    TreeMap<Integer, Integer> goal = split(price);
    need(goal != null, new IllegalArgumentException());
    Set<TreeMap<Integer, Integer>> met = new HashSet<>();
    Set<TreeMap<Integer, Integer>> edge = new HashSet<>();
    edge.add(purse);
    met.add(purse);
    for (int n = 0; ; n++) {
      for (TreeMap<Integer, Integer> one : edge) {
        if (covers(one, goal)) {
          return n;
        }
      }
      if (met.size() > 3000) {
        return -1000;
      }
      edge = beyond(edge, met);
      if (edge.isEmpty()) {
        return -1;
      }
    }
  }

  private Set<TreeMap<Integer, Integer>> beyond(Set<TreeMap<Integer, Integer>> edge, Set<TreeMap<Integer, Integer>> met) {
    Set<TreeMap<Integer, Integer>> next = new HashSet<>();
    for (TreeMap<Integer, Integer> one : edge) {
      for (List<List<Integer>> change : s.changes) {
        TreeMap<Integer, Integer> then = changed(one, change, new int[1]);
        if (then != null && met.add(then)) {
          next.add(then);
        }
      }
    }
    return next;
  }

  public int together(int set, long price, int what) {
    need(set >= 0 && set < 1 << s.purses.size(), new IllegalArgumentException());
    TreeMap<Integer, Integer> goal = split(price);
    need(goal != null && what >= 0 && what < 2, new IllegalArgumentException());
    for (int many = 0; many <= 5; many++) {
      for (int some = 0; some < 32; some++) {
        if (Integer.bitCount(some) != many || (some | set) != set) {
          continue;
        }
        TreeMap<Integer, Integer> all = new TreeMap<>();
        for (int p = 0; p < s.purses.size(); p++) {
          if ((some & 1 << p) != 0) {
            s.purses.get(p).forEach((prime, n) -> add(all, prime, n));
          }
        }
        if (covers(all, goal)) {
          return what == 0 ? many : some;
        }
      }
    }
    return -1;
  }

  public int between(int p, long low, long high) {
    int n = 0;
    for (long v : priceSet(p)) {
      n += v >= low && v <= high ? 1 : 0;
    }
    return n;
  }

  public int dear(int p, int prime) {
    person(p);
    need(smallPrime(prime), new IllegalArgumentException());
    int n = 0;
    for (long v : priceSet(p)) {
      boolean well = true;
      for (int c : split(v).keySet()) {
        well &= c <= prime;
      }
      n += well ? 1 : 0;
    }
    return n;
  }

  public int gainer() {
    int best = -1;
    for (int k = 0; k < s.changes.size(); k++) {
      if (best < 0 || BigInteger.valueOf(change(k, 1)).multiply(BigInteger.valueOf(change(best, 0)))
          .compareTo(BigInteger.valueOf(change(best, 1)).multiply(BigInteger.valueOf(change(k, 0)))) > 0) {
        best = k;
      }
    }
    return best;
  }

  public long grows(int p, int n) {
    TreeMap<Integer, Integer> purse = person(p);
    need(n >= 0 && n <= 6, new IllegalArgumentException());
    Set<TreeMap<Integer, Integer>> met = new HashSet<>();
    met.add(purse);
    Set<TreeMap<Integer, Integer>> edge = new HashSet<>(met);
    for (int i = 0; i < n; i++) {
      edge = beyond(edge, met);
      if (met.size() > 3000) {
        return -1000;
      }
    }
    BigInteger best = BigInteger.ONE;
    for (TreeMap<Integer, Integer> one : met) {
      best = best.max(value(one));
    }
    return best.longValueExact();
  }

  // ---- two purses

  public long swap(int p, int q, int what) {
    TreeMap<Integer, Integer> a = person(p);
    TreeMap<Integer, Integer> b = person(q);
    need(p != q && what >= 0 && what <= 2, new IllegalArgumentException());
    long[] best = {-1, -1, -1};
    for (int x : s.mint) {
      for (int y : s.mint) {
        if (x == y || !a.containsKey(x) || !b.containsKey(y)) {
          continue;
        }
        TreeMap<Integer, Integer> one = new TreeMap<>(a);
        TreeMap<Integer, Integer> other = new TreeMap<>(b);
        add(one, x, -1);
        add(one, y, 1);
        add(other, y, -1);
        add(other, x, 1);
        long d = value(one).subtract(value(other)).abs().longValueExact();
        if (best[2] < 0 || d < best[2]) {
          best = new long[] {x, y, d};
        }
      }
    }
    return best[what];
  }

  public long common(int p, int q) {
    return value(person(p)).gcd(value(person(q))).longValueExact();
  }

  public int least(int p, int q) {
    TreeMap<Integer, Integer> both = new TreeMap<>(person(p));
    person(q).forEach((prime, n) -> both.merge(prime, n, Math::max));
    return size(both);
  }

  public int friends() {
    int best = 0;
    for (int set = (1 << s.purses.size()) - 1; set >= 0; set--) {
      boolean well = true;
      for (int p = 0; p < 5; p++) {
        for (int q = 0; q < p; q++) {
          if ((set >> p & 1) == 1 && (set >> q & 1) == 1 && common(p, q) > 1) {
            well = false;
          }
        }
      }
      if (well && Integer.bitCount(set) >= Integer.bitCount(best)) {
        best = set;
      }
    }
    return best;
  }

  // ---- what is missing

  public int stolen(int p, long by, long rest) {
    TreeMap<Integer, Integer> purse = person(p);
    need(by >= 2 && by <= 1000000000 && rest >= 0 && rest < by, new IllegalArgumentException());
    int set = 0;
    for (int prime : purse.keySet()) {
      if (value(purse).divide(BigInteger.valueOf(prime)).mod(BigInteger.valueOf(by)).longValueExact() == rest) {
        set += 1 << s.mint.indexOf(prime);
      }
    }
    return set;
  }

  public long fitting(int tray, int n, int k) {
    long[] rests = tray(tray);
    boolean well = n >= 1 && n <= 4 && rests.length % 2 == 0;
    for (int i = 0; well && i < rests.length; i += 2) {
      well = rests[i] >= 2 && rests[i] <= 1000 && rests[i + 1] >= 0 && rests[i + 1] < rests[i];
    }
    need(well, new IllegalArgumentException());
    List<Long> found = new ArrayList<>();
    bags(rests, n, 0, 1, found);
    if (k == -1) {
      return found.size();
    }
    return k >= 0 && k < found.size() ? found.get(k) : -1;
  }

  private void bags(long[] rests, int n, int from, long product, List<Long> found) {
    if (n == 0) {
      for (int i = 0; i < rests.length; i += 2) {
        if (product % rests[i] != rests[i + 1]) {
          return;
        }
      }
      found.add(product);
      return;
    }
    for (int c = from; c < s.mint.size(); c++) {
      bags(rests, n - 1, c, product * s.mint.get(c), found);
    }
  }

  // ---- numbers

  private static List<Integer> factors(int n) {
    List<Integer> out = new ArrayList<>();
    for (int d = 2; n > 1; d++) {
      if ((long) d * d > n) {
        d = n;
      }
      while (n % d == 0) {
        out.add(d);
        n /= d;
      }
    }
    return out;
  }

  public int trial(int n, int what) {
    need(n >= 1 && n <= 1000000000 && what >= 0 && what < 2, new IllegalArgumentException());
    if (n == 1) {
      return 1 - what;
    }
    return factors(n).get(0) - what;
  }

  public int squares(int n, int what) {
    need(n >= 3 && n <= 1000000 && n % 2 == 1 && what >= 0 && what < 2, new IllegalArgumentException());
    long a = BigInteger.valueOf(n - 1).sqrt().longValueExact() + 1;
    for (int step = 1; ; step++, a++) {
      BigInteger[] root = BigInteger.valueOf(a * a - n).sqrtAndRemainder();
      if (root[1].signum() == 0) {
        return what == 0 ? (int) a - root[0].intValueExact() : step;
      }
    }
  }

  public int rounds(int n, int c, int what) {
    need(n >= 2 && n <= 1000000000 && c >= 0 && c < 100 && what >= 0 && what < 2, new IllegalArgumentException());
    BigInteger m = BigInteger.valueOf(n);
    BigInteger add = BigInteger.valueOf(c);
    BigInteger x = BigInteger.TWO;
    BigInteger y = BigInteger.TWO;
    for (int step = 1; step <= 2000; step++) {
      x = x.multiply(x).add(add).mod(m);
      y = y.multiply(y).add(add).mod(m);
      y = y.multiply(y).add(add).mod(m);
      BigInteger g = m.gcd(x.subtract(y));
      if (!g.equals(BigInteger.ONE)) {
        return what == 0 ? g.intValueExact() : step;
      }
    }
    return -1;
  }

  public int factor(int n, int k) {
    need(n >= 1 && n <= 1000000000, new IllegalArgumentException());
    List<Integer> all = factors(n);
    if (k == -1) {
      return all.size();
    }
    return k >= 0 && k < all.size() ? all.get(k) : -1;
  }

  public int smooth(int n, int prime) {
    need(n >= 1 && n <= 5000 && smallPrime(prime), new IllegalArgumentException());
    boolean[] rough = new boolean[n + 1];
    for (int f = prime + 1; f <= n; f++) {
      if (factors(f).size() == 1) {
        for (int m = f; m <= n; m += f) {
          rough[m] = true;
        }
      }
    }
    int many = 0;
    for (int m = 1; m <= n; m++) {
      many += rough[m] ? 0 : 1;
    }
    return many;
  }

  public int primesTo(int n) {
    need(n >= 1 && n <= 5000, new IllegalArgumentException());
    int many = 0;
    for (int m = 2; m <= n; m++) {
      many += factors(m).size() == 1 ? 1 : 0;
    }
    return many;
  }

  public int witness(int n) {
    need(n >= 2 && n <= 1000000000, new IllegalArgumentException());
    BigInteger m = BigInteger.valueOf(n);
    for (int a = 2; a <= 60 && a < n; a++) {
      if (!BigInteger.valueOf(a).modPow(m.subtract(BigInteger.ONE), m).equals(BigInteger.ONE)) {
        return a;
      }
    }
    return -1;
  }

  public int order(int a, int n) {
    need(n >= 2 && n <= 10000 && a >= 1 && a < n, new IllegalArgumentException());
    Set<Integer> seen = new HashSet<>();
    int e = 1;
    for (int v = a; seen.add(v); v = v * a % n, e++) {
      if (v == 1) {
        return e;
      }
    }
    return -1;
  }

  // ---- debts

  public long owe(int p, int q, long n) {
    person(p);
    person(q);
    need(p != q && n >= 1 && n <= 1000000, new IllegalArgumentException());
    long then = owed(p, q) * n;
    need(then <= 1000000000, new IllegalStateException());
    s.debts.put(10 * p + q, then);
    return then;
  }

  public long owed(int p, int q) {
    person(p);
    person(q);
    return s.debts.getOrDefault(10 * p + q, 1L);
  }

  public int struck() {
    List<int[]> rings = new ArrayList<>();
    for (int ab = 0; ab < 100; ab++) {
      rings.add(new int[] {ab, ab % 10 * 10 + ab / 10});
    }
    for (int abc = 0; abc < 1000; abc++) {
      int a = abc / 100;
      int b = abc / 10 % 10;
      int c = abc % 10;
      if (a < b && a < c && b != c) {
        rings.add(new int[] {10 * a + b, 10 * b + c, 10 * c + a});
      }
    }
    int strikes = 0;
    while (strikeFirst(rings)) {
      strikes++;
    }
    return strikes;
  }

  private boolean strikeFirst(List<int[]> rings) {
    for (int[] ring : rings) {
      BigInteger g = BigInteger.ZERO;
      for (int key : ring) {
        g = g.gcd(BigInteger.valueOf(s.debts.getOrDefault(key, 1L)));
      }
      if (g.longValueExact() > 1) {
        for (int key : ring) {
          s.debts.put(key, s.debts.get(key) / g.longValueExact());
        }
        return true;
      }
    }
    return false;
  }

  // ---- trays, images

  public void tray(int tray, int sort, int many) {
    need(tray >= 0 && tray < 4, new NoSuchElementException());
    need(sort >= 0 && sort < 4 && many >= 0 && many <= 30, new IllegalArgumentException());
    trays[tray] = new long[many];
    bits[tray] = 8 << sort;
  }

  public long write(int tray, int place, long v) {
    long[] row = tray(tray);
    need(place >= 0 && place < row.length, new IndexOutOfBoundsException());
    row[place] = v << 64 - bits[tray] >> 64 - bits[tray];
    return row[place];
  }

  public int pour(int tray) {
    long[] row = tray(tray);
    int n = 0;
    for (; n < row.length && n < s.purses.size(); n++) {
      write(tray, n, worth(n));
    }
    return n;
  }

  public void image(int i) {
    need(i >= 0 && i < 3, new NoSuchElementException());
    images[i] = s.copy();
  }

  public void restore(int i) {
    need(i >= 0 && i < 3, new NoSuchElementException());
    need(images[i] != null, new IllegalStateException());
    s = images[i].copy();
  }

  public int count(int what) {
    switch (what) {
      case 0:
        return s.lines;
      case 1:
        return s.mint.size();
      case 2:
        return s.purses.size();
      case 3:
        return s.changes.size();
      case 4:
        int sum = 0;
        for (TreeMap<Integer, Integer> purse : s.purses) {
          sum += size(purse);
        }
        return sum;
      case 5:
        return size(s.treasury);
      case 6:
        int above = 0;
        for (long n : s.debts.values()) {
          above += n > 1 ? 1 : 0;
        }
        return above;
      case 7:
        return tape.length();
      default:
        return -1;
    }
  }
}
