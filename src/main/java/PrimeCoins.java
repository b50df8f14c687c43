import java.util.Arrays;
import java.util.NoSuchElementException;

public final class PrimeCoins {
  public static final int NONE = -1;
  public static final int SPENT = -1000;

  private static final int TAPE_MOST = 700;
  private static final int FEED_BYTES = 20;
  private static final int COINS_MOST = 8;
  private static final int PEOPLE_MOST = 5;
  private static final int CHANGES_MOST = 6;
  private static final int SIDE_MOST = 3;
  private static final int PURSE_MOST = 9;
  private static final int TREASURY_MOST = 999;
  private static final int MET_MOST = 3000;
  private static final int TRAYS = 4;
  private static final int PLACES_MOST = 30;
  private static final int IMAGES = 3;
  private static final int MISSING = -1;
  private static final int BILLION = 1000000000;
  private static final int INT_BITS = 32;
  private static final int LONG_BITS = 64;

  private final int[] tape = new int[TAPE_MOST];
  private int taped = 0;
  private int latestFault = 0;
  private int latestPlace = NONE;
  private final Town now = new Town();
  /** A town that may be spoilt: deals are judged on it. */
  private final Town draft = new Town();
  private final Town[] images = new Town[IMAGES];
  private final boolean[] imageMade = new boolean[IMAGES];
  private final Tray[] trays = new Tray[TRAYS];
  private final int[] need = new int[COINS_MOST];
  private final Reader reader = new Reader();
  private final PriceRow row = new PriceRow();
  private final Search search = new Search();
  private final Bags bags = new Bags();
  private final Draws draws = new Draws();

  public PrimeCoins() {
    for (int i = 0; i < IMAGES; i++) {
      images[i] = new Town();
    }
    for (int i = 0; i < TRAYS; i++) {
      trays[i] = new Tray();
    }
  }

  // ---- the town

  public int feed(int a, int b, int c, int d, int e) {
    if (taped + FEED_BYTES > TAPE_MOST) {
      return NONE;
    }
    lay(a);
    lay(b);
    lay(c);
    lay(d);
    lay(e);
    return taped;
  }

  public int town(int n) throws IllegalArgumentException {
    if (n < 0 || n > taped) {
      throw new IllegalArgumentException("not so many bytes");
    }
    reader.read(tape, n);
    taped = 0;
    latestFault = reader.fault;
    latestPlace = reader.place;
    if (latestFault != 0) {
      return -10 - latestFault;
    }
    now.become(reader.town);
    return now.lines;
  }

  public int fault(int what) {
    if (what == 0) {
      return latestFault;
    }
    return what == 1 ? latestPlace : NONE;
  }

  public int coin(int k) throws NoSuchElementException {
    if (k < 0 || k >= now.coins) {
      throw new NoSuchElementException("no such coin");
    }
    return now.primeOf(k);
  }

  public int has(int p, int prime) throws NoSuchElementException {
    needPerson(p);
    return now.held(p, now.numberOf(prime));
  }

  public int purse(int p, int what) throws NoSuchElementException, IllegalArgumentException {
    needPerson(p);
    needWhat(what, 3);
    switch (what) {
      case 0:
        return now.many(p);
      case 1:
        return now.unlike(p);
      case 2:
        return now.primeOf(now.greatestCoin(p));
      default:
        return now.primeOf(now.leastCoin(p));
    }
  }

  public long worth(int p) throws NoSuchElementException {
    needPerson(p);
    return now.worthOf(p);
  }

  public int change(int k, int what) throws NoSuchElementException, IllegalArgumentException {
    needChange(k);
    needWhat(what, 1);
    return now.sideWorth(k, what);
  }

  // ---- deals

  public int may(int p, int q, long price) throws NoSuchElementException, IllegalArgumentException {
    needTwo(p, q);
    return payFault(p, q, price);
  }

  public int pay(int p, int q, long price) throws NoSuchElementException, IllegalArgumentException {
    needTwo(p, q);
    int why = payFault(p, q, price);
    return why != 0 ? -why : now.handOver(p, q, need);
  }

  public int changes(int p, int k) throws NoSuchElementException {
    needPerson(p);
    needChange(k);
    int why = now.changeFault(p, k);
    return why != 0 ? -why : now.makeChange(p, k);
  }

  public int tax(int p) throws NoSuchElementException {
    needPerson(p);
    return now.taxOne(p);
  }

  public int strike(int p, int prime)
      throws NoSuchElementException, IllegalArgumentException, IllegalStateException {
    needPerson(p);
    int c = now.numberOf(prime);
    if (c == NONE) {
      throw new IllegalArgumentException("no coin");
    }
    if (now.many(p) >= PURSE_MOST) {
      throw new IllegalStateException("the purse is full");
    }
    now.come(p, c, 1);
    return now.many(p);
  }

  public int treasury(int prime) {
    return now.inTreasury(now.numberOf(prime));
  }

  public long readOut(long by) throws IllegalArgumentException {
    if (by < 1 || by > BILLION) {
      throw new IllegalArgumentException("not 1 to 1,000,000,000");
    }
    long product = 1 % by;
    for (int c = 0; c < now.coins; c++) {
      product = product * Numbers.power(now.primeOf(c), now.inTreasury(c), by) % by;
    }
    return product;
  }

  public int year(int seed, int times) throws IllegalArgumentException, IllegalStateException {
    if (times < 1 || times > 60) {
      throw new IllegalArgumentException("not 1 to 60 times");
    }
    if (now.people == 0) {
      throw new IllegalStateException("no people");
    }
    draws.x = seed;
    int grown = 0;
    for (int i = 0; i < times; i++) {
      grown += yearStep();
    }
    return grown;
  }

  public int judge(int tray, int what)
      throws NoSuchElementException, IllegalStateException, IllegalArgumentException {
    Tray deals = needTray(tray);
    needWhat(what, 2);
    draft.become(now);
    int made = draft.makeDeals(deals);
    if (what == 2) {
      return draft.richest();
    }
    if (made == deals.many) {
      return what == 0 ? NONE : 0;
    }
    return what == 0 ? made : draft.dealFault(deals.at(made));
  }

  public int perform(int tray) throws NoSuchElementException, IllegalStateException {
    return now.makeDeals(needTray(tray));
  }

  // ---- prices

  public int prices(int p) throws NoSuchElementException {
    needPerson(p);
    return now.smoothPrices(p, Numbers.GREATEST_PRIME);
  }

  public long price(int p, int k) throws NoSuchElementException {
    needPerson(p);
    row.fill(now, p);
    return k < 0 || k >= row.many ? NONE : row.at(k);
  }

  public long gap(int p) throws NoSuchElementException {
    needPerson(p);
    row.fill(now, p);
    return row.widest();
  }

  public long nearest(int p, long n) throws NoSuchElementException {
    needPerson(p);
    row.fill(now, p);
    return row.nearestTo(n);
  }

  public long half(int p) throws NoSuchElementException {
    needPerson(p);
    row.fill(now, p);
    return row.rootOf(now.worthOf(p));
  }

  public int fewest(int p, long price) throws NoSuchElementException, IllegalArgumentException {
    needPerson(p);
    needPrice(price);
    search.begin(now, p);
    for (int n = 0; n <= MET_MOST; n++) {
      if (search.newOneHolds(need)) {
        return n;
      }
      if (search.met > MET_MOST) {
        return SPENT;
      }
      if (!search.hasNew()) {
        return NONE;
      }
      search.step();
    }
    return NONE;
  }

  public int together(int set, long price, int what) throws IllegalArgumentException {
    needSet(set);
    needPrice(price);
    needWhat(what, 1);
    int best = NONE;
    for (int some = 0; some <= set; some++) {
      boolean fewer = best == NONE || Integer.bitCount(some) < Integer.bitCount(best);
      if ((some & ~set) == 0 && fewer && now.allHold(some, need)) {
        best = some;
      }
    }
    return best == NONE || what == 1 ? best : Integer.bitCount(best);
  }

  public int between(int p, long low, long high) throws NoSuchElementException {
    needPerson(p);
    row.fill(now, p);
    return row.within(low, high);
  }

  public int dear(int p, int prime) throws NoSuchElementException, IllegalArgumentException {
    needPerson(p);
    needSmallPrime(prime);
    return now.smoothPrices(p, prime);
  }

  public int gainer() {
    int best = now.changes > 0 ? 0 : NONE;
    for (int k = 1; k < now.changes; k++) {
      long here = (long) now.sideWorth(k, 1) * now.sideWorth(best, 0);
      long there = (long) now.sideWorth(best, 1) * now.sideWorth(k, 0);
      if (here > there) {
        best = k;
      }
    }
    return best;
  }

  public long grows(int p, int n) throws NoSuchElementException, IllegalArgumentException {
    needPerson(p);
    if (n < 0 || n > 6) {
      throw new IllegalArgumentException("not 0 to 6");
    }
    search.begin(now, p);
    long best = search.dearestNew(now);
    for (int i = 0; i < n; i++) {
      search.step();
      if (search.met > MET_MOST) {
        return SPENT;
      }
      best = Math.max(best, search.dearestNew(now));
    }
    return best;
  }

  // ---- two purses

  public long swap(int p, int q, int what) throws NoSuchElementException, IllegalArgumentException {
    needTwo(p, q);
    needWhat(what, 2);
    int goes = NONE;
    int comes = NONE;
    long nearest = 0;
    for (int c = 0; c < now.coins; c++) {
      for (int d = 0; d < now.coins; d++) {
        if (c == d || now.held(p, c) == 0 || now.held(q, d) == 0) {
          continue;
        }
        long differ = now.differBySwap(p, q, c, d);
        if (goes == NONE || differ < nearest) {
          goes = c;
          comes = d;
          nearest = differ;
        }
      }
    }
    if (goes == NONE) {
      return NONE;
    }
    if (what == 2) {
      return nearest;
    }
    return now.primeOf(what == 0 ? goes : comes);
  }

  public long common(int p, int q) throws NoSuchElementException {
    needPerson(p);
    needPerson(q);
    return Numbers.commonFactor(now.worthOf(p), now.worthOf(q));
  }

  public int least(int p, int q) throws NoSuchElementException {
    needPerson(p);
    needPerson(q);
    int sum = 0;
    for (int c = 0; c < now.coins; c++) {
      sum += Math.max(now.held(p, c), now.held(q, c));
    }
    return sum;
  }

  public int friends() {
    int best = 0;
    for (int set = 1; set < 1 << now.people; set++) {
      if (Integer.bitCount(set) > Integer.bitCount(best) && now.shareNoPrime(set)) {
        best = set;
      }
    }
    return best;
  }

  // ---- what is missing

  public int stolen(int p, long by, long rest) throws NoSuchElementException, IllegalArgumentException {
    needPerson(p);
    if (by < 2 || by > BILLION || rest < 0 || rest >= by) {
      throw new IllegalArgumentException("no such number or remainder");
    }
    long all = now.worthOf(p);
    int bits = 0;
    for (int c = 0; c < now.coins; c++) {
      if (now.held(p, c) > 0 && all / now.primeOf(c) % by == rest) {
        bits |= 1 << c;
      }
    }
    return bits;
  }

  public long fitting(int tray, int n, int k)
      throws NoSuchElementException, IllegalStateException, IllegalArgumentException {
    Tray rests = needTray(tray);
    if (n < 1 || n > Bags.MOST || !rests.tellsRests()) {
      throw new IllegalArgumentException("no such bags or remainders");
    }
    return bags.seek(now, rests, n, k);
  }

  // ---- numbers

  public int trial(int n, int what) throws IllegalArgumentException {
    needNumber(n, 1);
    needWhat(what, 1);
    int found = Numbers.leastFactor(n);
    // What is tried begins at 2, so the factor is its own STEP but for one.
    return what == 0 ? found : found - 1;
  }

  public int squares(int n, int what) throws IllegalArgumentException {
    if (n < 3 || n > 1000000 || n % 2 == 0) {
      throw new IllegalArgumentException("no odd number to 1,000,000");
    }
    needWhat(what, 1);
    int root = Numbers.rootAbove(n);
    // The first a that does belongs to the factor nearest below the root:
    // with n = f g it is half of f and g, and f is a less b.
    int found = root * root == n ? root : root - 1;
    while (found > 1 && n % found != 0) {
      found--;
    }
    int last = (found + n / found) / 2;
    return what == 0 ? found : last - root + 1;
  }

  public int rounds(int n, int c, int what) throws IllegalArgumentException {
    needNumber(n, 2);
    if (c < 0 || c > 99) {
      throw new IllegalArgumentException("not 0 to 99");
    }
    needWhat(what, 1);
    long x = 2;
    long y = 2;
    for (int step = 1; step <= 2000; step++) {
      x = (x * x + c) % n;
      y = (y * y + c) % n;
      y = (y * y + c) % n;
      long found = Numbers.commonFactor(n, Math.abs(x - y));
      if (found > 1) {
        return what == 0 ? (int) found : step;
      }
    }
    return NONE;
  }

  public int factor(int n, int k) throws IllegalArgumentException {
    needNumber(n, 1);
    int left = n;
    int found = 0;
    for (int d = 2; d <= Numbers.ROOT_MOST && d * d <= left; d++) {
      for (int i = 0; i < INT_BITS && left % d == 0; i++) {
        if (found == k) {
          return d;
        }
        found++;
        left /= d;
      }
    }
    if (left > 1) {
      if (found == k) {
        return left;
      }
      found++;
    }
    return k == NONE ? found : NONE;
  }

  public int smooth(int n, int prime) throws IllegalArgumentException {
    needSmallNumber(n);
    needSmallPrime(prime);
    int many = 0;
    for (int m = 1; m <= n; m++) {
      if (Numbers.isSmooth(m, prime)) {
        many++;
      }
    }
    return many;
  }

  public int primesTo(int n) throws IllegalArgumentException {
    needSmallNumber(n);
    int many = 0;
    for (int m = 2; m <= n; m++) {
      if (Numbers.leastFactor(m) == m) {
        many++;
      }
    }
    return many;
  }

  public int witness(int n) throws IllegalArgumentException {
    needNumber(n, 2);
    for (int a = 2; a <= 60 && a < n; a++) {
      if (Numbers.power(a, n - 1, n) != 1) {
        return a;
      }
    }
    return NONE;
  }

  public int order(int a, int n) throws IllegalArgumentException {
    if (n < 2 || n > 10000 || a < 1 || a >= n) {
      throw new IllegalArgumentException("no such numbers");
    }
    int power = a;
    for (int e = 1; e <= n; e++) {
      if (power == 1) {
        return e;
      }
      power = power * a % n;
    }
    return NONE;
  }

  // ---- debts

  public long owe(int p, int q, long n)
      throws NoSuchElementException, IllegalArgumentException, IllegalStateException {
    needTwo(p, q);
    if (n < 1 || n > 1000000) {
      throw new IllegalArgumentException("not 1 to 1,000,000");
    }
    long then = now.debts.of(p, q) * n;
    if (then > BILLION) {
      throw new IllegalStateException("above 1,000,000,000");
    }
    now.debts.set(p, q, then);
    return then;
  }

  public long owed(int p, int q) throws NoSuchElementException {
    needPerson(p);
    needPerson(q);
    return now.debts.of(p, q);
  }

  public int struck() {
    return now.debts.strikeAll();
  }

  // ---- trays, images

  public void tray(int tray, int sort, int many)
      throws NoSuchElementException, IllegalArgumentException {
    if (tray < 0 || tray >= TRAYS) {
      throw new NoSuchElementException("no such tray");
    }
    if (sort < 0 || sort > 3 || many < 0 || many > PLACES_MOST) {
      throw new IllegalArgumentException("no such sort, or not so many");
    }
    trays[tray].layRow(sort, many);
  }

  public long write(int tray, int place, long v)
      throws NoSuchElementException, IllegalStateException, IndexOutOfBoundsException {
    Tray there = needTray(tray);
    if (place < 0 || place >= there.many) {
      throw new IndexOutOfBoundsException("no such place");
    }
    return there.put(place, v);
  }

  public int pour(int tray) throws NoSuchElementException, IllegalStateException {
    Tray there = needTray(tray);
    int poured = Math.min(now.people, there.many);
    for (int p = 0; p < poured; p++) {
      there.put(p, now.worthOf(p));
    }
    return poured;
  }

  public void image(int i) throws NoSuchElementException {
    needImage(i);
    images[i].become(now);
    imageMade[i] = true;
  }

  public void restore(int i) throws NoSuchElementException, IllegalStateException {
    needImage(i);
    if (!imageMade[i]) {
      throw new IllegalStateException("no image was made");
    }
    now.become(images[i]);
  }

  public int count(int what) {
    switch (what) {
      case 0:
        return now.lines;
      case 1:
        return now.coins;
      case 2:
        return now.people;
      case 3:
        return now.changes;
      case 4:
        return now.manyInPurses();
      case 5:
        return now.manyInTreasury();
      case 6:
        return now.debts.aboveOne();
      case 7:
        return taped;
      default:
        return NONE;
    }
  }

  // ---- what the calls share

  private void lay(int four) {
    for (int shift = 24; shift >= 0 && taped < TAPE_MOST; shift -= 8) {
      tape[taped] = four >>> shift & 255;
      taped++;
    }
  }

  private int payFault(int p, int q, long price) {
    if (!now.takeApart(price, need)) {
      return 1;
    }
    if (!now.allHold(1 << p, need)) {
      return 2;
    }
    int paid = 0;
    for (int c = 0; c < COINS_MOST; c++) {
      paid += need[c];
    }
    return now.many(q) + paid > PURSE_MOST ? 3 : 0;
  }

  /** The COIN is drawn ahead of the look at the room for it: so the words stand. */
  private int yearStep() {
    int p = draws.below(now.people);
    if (draws.below(4) == 0) {
      return now.taxOne(p) == NONE ? 0 : -1;
    }
    int c = draws.below(now.coins);
    if (now.many(p) >= PURSE_MOST) {
      return 0;
    }
    now.come(p, c, 1);
    return 1;
  }

  private void needPerson(int p) {
    if (p < 0 || p >= now.people) {
      throw new NoSuchElementException("no such person");
    }
  }

  private void needTwo(int p, int q) {
    needPerson(p);
    needPerson(q);
    if (p == q) {
      throw new IllegalArgumentException("both are one");
    }
  }

  private void needChange(int k) {
    if (k < 0 || k >= now.changes) {
      throw new NoSuchElementException("no such change");
    }
  }

  private void needWhat(int what, int last) {
    if (what < 0 || what > last) {
      throw new IllegalArgumentException("no such what");
    }
  }

  private void needSet(int set) {
    if (set < 0 || set >= 1 << now.people) {
      throw new IllegalArgumentException("a set with others");
    }
  }

  /** Leaves the COINS of the PRICE in need. */
  private void needPrice(long price) {
    if (!now.takeApart(price, need)) {
      throw new IllegalArgumentException("no price of coins");
    }
  }

  private void needNumber(int n, int least) {
    if (n < least || n > BILLION) {
      throw new IllegalArgumentException("no such number");
    }
  }

  private void needSmallNumber(int n) {
    if (n < 1 || n > 5000) {
      throw new IllegalArgumentException("not 1 to 5,000");
    }
  }

  private void needSmallPrime(int prime) {
    if (!Numbers.isSmallPrime(prime)) {
      throw new IllegalArgumentException("no prime from 2 to 97");
    }
  }

  private void needImage(int i) {
    if (i < 0 || i >= IMAGES) {
      throw new NoSuchElementException("no such image");
    }
  }

  private Tray needTray(int i) {
    if (i < 0 || i >= TRAYS) {
      throw new NoSuchElementException("no such tray");
    }
    if (trays[i].sort == MISSING) {
      throw new IllegalStateException("the tray is missing");
    }
    return trays[i];
  }

  /** All that an IMAGE keeps. Unused places of its rows are 0, a prime read there 1. */
  private static final class Town {
    int lines = 0;
    int coins = 0;
    int people = 0;
    int changes = 0;
    final Debts debts = new Debts();
    private final int[] primes = new int[COINS_MOST];
    private final int[] purses = new int[PEOPLE_MOST * COINS_MOST];
    private final int[] sides = new int[CHANGES_MOST * 2 * COINS_MOST];
    private final int[] kept = new int[COINS_MOST];

    void empty() {
      lines = 0;
      coins = 0;
      people = 0;
      changes = 0;
      debts.forgive();
      Arrays.fill(primes, 0);
      Arrays.fill(purses, 0);
      Arrays.fill(sides, 0);
      Arrays.fill(kept, 0);
    }

    void become(Town other) {
      lines = other.lines;
      coins = other.coins;
      people = other.people;
      changes = other.changes;
      debts.takeOver(other.debts);
      System.arraycopy(other.primes, 0, primes, 0, primes.length);
      System.arraycopy(other.purses, 0, purses, 0, purses.length);
      System.arraycopy(other.sides, 0, sides, 0, sides.length);
      System.arraycopy(other.kept, 0, kept, 0, kept.length);
    }

    // -- COINS

    void addCoin(int prime) {
      if (coins < COINS_MOST) {
        primes[coins] = prime;
        coins++;
      }
    }

    /** 1 where there is no COIN: it multiplies and divides without harm. */
    int primeOf(int c) {
      return c >= 0 && c < coins ? primes[c] : 1;
    }

    int numberOf(int prime) {
      for (int c = 0; c < coins; c++) {
        if (primes[c] == prime) {
          return c;
        }
      }
      return NONE;
    }

    /** The COINS of a PRICE come into counts; false: it is none. */
    boolean takeApart(long price, int[] counts) {
      Arrays.fill(counts, 0);
      if (price < 1) {
        return false;
      }
      long left = price;
      for (int c = 0; c < coins && c < counts.length; c++) {
        int prime = Math.max(primes[c], 2);
        for (int i = 0; i < LONG_BITS && left % prime == 0; i++) {
          left /= prime;
          counts[c]++;
        }
      }
      return left == 1;
    }

    // -- PURSES

    int held(int p, int c) {
      boolean there = p >= 0 && p < PEOPLE_MOST && c >= 0 && c < COINS_MOST;
      return there ? purses[p * COINS_MOST + c] : 0;
    }

    void come(int p, int c, int more) {
      if (p >= 0 && p < PEOPLE_MOST && c >= 0 && c < COINS_MOST) {
        purses[p * COINS_MOST + c] += more;
      }
    }

    int many(int p) {
      int sum = 0;
      for (int c = 0; c < coins; c++) {
        sum += held(p, c);
      }
      return sum;
    }

    int manyInPurses() {
      int sum = 0;
      for (int p = 0; p < people; p++) {
        sum += many(p);
      }
      return sum;
    }

    int unlike(int p) {
      return Integer.bitCount(coinBits(p));
    }

    int coinBits(int p) {
      int bits = 0;
      for (int c = 0; c < coins; c++) {
        if (held(p, c) > 0) {
          bits |= 1 << c;
        }
      }
      return bits;
    }

    int greatestCoin(int p) {
      int best = NONE;
      for (int c = 0; c < coins; c++) {
        if (held(p, c) > 0 && (best == NONE || primeOf(c) > primeOf(best))) {
          best = c;
        }
      }
      return best;
    }

    int leastCoin(int p) {
      int best = NONE;
      for (int c = 0; c < coins; c++) {
        if (held(p, c) > 0 && (best == NONE || primeOf(c) < primeOf(best))) {
          best = c;
        }
      }
      return best;
    }

    long worthOf(int p) {
      long product = 1;
      for (int c = 0; c < coins; c++) {
        product *= Numbers.whole(primeOf(c), held(p, c));
      }
      return product;
    }

    int richest() {
      int best = people > 0 ? 0 : NONE;
      for (int p = 1; p < people; p++) {
        if (worthOf(p) > worthOf(best)) {
          best = p;
        }
      }
      return best;
    }

    /** A PRICE is taken from the PURSE for each COIN as often as it goes. */
    int smoothPrices(int p, int prime) {
      int product = 1;
      for (int c = 0; c < coins; c++) {
        if (primeOf(c) <= prime) {
          product *= held(p, c) + 1;
        }
      }
      return product;
    }

    boolean allHold(int set, int[] counts) {
      for (int c = 0; c < COINS_MOST && c < counts.length; c++) {
        int sum = 0;
        for (int p = 0; p < people; p++) {
          sum += (set >> p & 1) * held(p, c);
        }
        if (sum < counts[c]) {
          return false;
        }
      }
      return true;
    }

    boolean shareNoPrime(int set) {
      int taken = 0;
      for (int p = 0; p < people; p++) {
        int own = (set >> p & 1) * coinBits(p);
        if ((taken & own) != 0) {
          return false;
        }
        taken |= own;
      }
      return true;
    }

    long differBySwap(int p, int q, int c, int d) {
      long first = worthOf(p) / primeOf(c) * primeOf(d);
      long second = worthOf(q) / primeOf(d) * primeOf(c);
      return Math.abs(first - second);
    }

    int handOver(int p, int q, int[] counts) {
      int handed = 0;
      for (int c = 0; c < coins && c < counts.length; c++) {
        come(p, c, -counts[c]);
        come(q, c, counts[c]);
        handed += counts[c];
      }
      return handed;
    }

    // -- CHANGES

    private static boolean isSidePlace(int k, int side, int c) {
      return k >= 0 && k < CHANGES_MOST && (side == 0 || side == 1) && c >= 0 && c < COINS_MOST;
    }

    int onSide(int k, int side, int c) {
      return isSidePlace(k, side, c) ? sides[(k * 2 + side) * COINS_MOST + c] : 0;
    }

    void addToSide(int k, int side, int c) {
      if (isSidePlace(k, side, c)) {
        sides[(k * 2 + side) * COINS_MOST + c]++;
      }
    }

    int sideWorth(int k, int side) {
      long product = 1;
      for (int c = 0; c < coins; c++) {
        product *= Numbers.whole(primeOf(c), onSide(k, side, c));
      }
      return (int) product;
    }

    int changeFault(int p, int k) {
      int then = many(p);
      for (int c = 0; c < coins; c++) {
        if (held(p, c) < onSide(k, 0, c)) {
          return 2;
        }
        then += onSide(k, 1, c) - onSide(k, 0, c);
      }
      return then > PURSE_MOST ? 3 : 0;
    }

    int makeChange(int p, int k) {
      for (int c = 0; c < coins; c++) {
        come(p, c, onSide(k, 1, c) - onSide(k, 0, c));
      }
      return many(p);
    }

    // -- THE TREASURY

    int inTreasury(int c) {
      return c >= 0 && c < coins ? kept[c] : 0;
    }

    int manyInTreasury() {
      int sum = 0;
      for (int c = 0; c < coins; c++) {
        sum += kept[c];
      }
      return sum;
    }

    int taxOne(int p) {
      int c = greatestCoin(p);
      if (c < 0 || c >= COINS_MOST) {
        return NONE;
      }
      come(p, c, -1);
      kept[c] = Math.min(kept[c] + 1, TREASURY_MOST);
      return primeOf(c);
    }

    // -- DEALS

    int dealFault(long deal) {
      long giver = deal / 1000;
      long getter = deal / 100 % 10;
      int c = numberOf((int) (deal % 100));
      if (deal < 0 || giver >= people || getter >= people || giver == getter || c == NONE) {
        return 1;
      }
      if (held((int) giver, c) == 0) {
        return 2;
      }
      return many((int) getter) >= PURSE_MOST ? 3 : 0;
    }

    /** How many were made till one can't be. */
    int makeDeals(Tray deals) {
      for (int i = 0; i < deals.many; i++) {
        long deal = deals.at(i);
        if (dealFault(deal) != 0) {
          return i;
        }
        int c = numberOf((int) (deal % 100));
        come((int) (deal / 1000), c, -1);
        come((int) (deal / 100 % 10), c, 1);
      }
      return deals.many;
    }
  }

  /** What each PERSON owes each other one; those who aren't there owe 1. */
  private static final class Debts {
    private final long[] owes = new long[PEOPLE_MOST * PEOPLE_MOST];

    Debts() {
      Arrays.fill(owes, 1);
    }

    void forgive() {
      Arrays.fill(owes, 1);
    }

    void takeOver(Debts other) {
      System.arraycopy(other.owes, 0, owes, 0, owes.length);
    }

    private static boolean isPair(int p, int q) {
      return p >= 0 && p < PEOPLE_MOST && q >= 0 && q < PEOPLE_MOST;
    }

    long of(int p, int q) {
      return isPair(p, q) ? owes[p * PEOPLE_MOST + q] : 1;
    }

    void set(int p, int q, long n) {
      if (isPair(p, q)) {
        owes[p * PEOPLE_MOST + q] = n;
      }
    }

    int aboveOne() {
      int many = 0;
      for (int i = 0; i < owes.length; i++) {
        if (owes[i] > 1) {
          many++;
        }
      }
      return many;
    }

    /** Each strike halves two numbers below 2 to the 30th at least, so far fewer than the bound come. */
    int strikeAll() {
      int strikes = 0;
      for (int i = 0; i < 10000 && (strikeTwo() || strikeThree()); i++) {
        strikes++;
      }
      return strikes;
    }

    private boolean strikeTwo() {
      for (int a = 0; a < PEOPLE_MOST; a++) {
        for (int b = a + 1; b < PEOPLE_MOST; b++) {
          long found = Numbers.commonFactor(of(a, b), of(b, a));
          if (found > 1) {
            divide(a, b, found);
            divide(b, a, found);
            return true;
          }
        }
      }
      return false;
    }

    private boolean strikeThree() {
      for (int a = 0; a < PEOPLE_MOST; a++) {
        for (int b = a + 1; b < PEOPLE_MOST; b++) {
          for (int c = a + 1; c < PEOPLE_MOST; c++) {
            if (c != b && strikeRing(a, b, c)) {
              return true;
            }
          }
        }
      }
      return false;
    }

    private boolean strikeRing(int a, int b, int c) {
      long found = Numbers.commonFactor(Numbers.commonFactor(of(a, b), of(b, c)), of(c, a));
      if (found < 2) {
        return false;
      }
      divide(a, b, found);
      divide(b, c, found);
      divide(c, a, found);
      return true;
    }

    private void divide(int p, int q, long by) {
      if (by > 1) {
        set(p, q, of(p, q) / by);
      }
    }
  }

  /** The TOKENS of a TEXT in rows, one END behind them. */
  private static final class Tokens {
    static final int END = 0;
    static final int BAD = 1;
    static final int NUMBER = 2;
    static final int SEMICOLON = 3;
    static final int WORD = 4;
    static final int MINT = 5;
    static final int PURSE = 6;
    static final int TIMES = 7;
    static final int CHANGE = 8;
    static final int INTO = 9;
    private static final int DIGITS_MOST = 3;

    /** A copy of the tape's: a row handed to a constructor would leave an object that isn't made yet. */
    private final int[] text = new int[TAPE_MOST];
    private final int[] kinds = new int[TAPE_MOST + 1];
    private final int[] starts = new int[TAPE_MOST + 1];
    private final int[] values = new int[TAPE_MOST + 1];
    private int many = 0;
    private int length = 0;
    private int at = 0;

    int kindOf(int i) {
      return i >= 0 && i < many ? kinds[i] : END;
    }

    int startOf(int i) {
      return i >= 0 && i < many ? starts[i] : length;
    }

    int valueOf(int i) {
      return i >= 0 && i < many ? values[i] : 0;
    }

    void cutAll(int[] tape, int n) {
      length = Math.max(0, Math.min(n, Math.min(tape.length, text.length)));
      System.arraycopy(tape, 0, text, 0, length);
      at = 0;
      skipBlanks();
      for (many = 0; many < TAPE_MOST && at < length; many++) {
        cutOne();
        skipBlanks();
      }
    }

    private void cutOne() {
      starts[many] = at;
      values[many] = 0;
      if (isLetter(signAt(at))) {
        skipLetters();
        kinds[many] = kindOfWord(starts[many]);
      } else if (isDigit(signAt(at))) {
        values[many] = readDigits();
        kinds[many] = at - starts[many] > DIGITS_MOST ? BAD : NUMBER;
      } else {
        kinds[many] = signAt(at) == ';' ? SEMICOLON : BAD;
        at++;
      }
    }

    private int signAt(int i) {
      return i >= 0 && i < length ? text[i] : NONE;
    }

    private static boolean isLetter(int sign) {
      return sign >= 'a' && sign <= 'z';
    }

    private static boolean isDigit(int sign) {
      return sign >= '0' && sign <= '9';
    }

    private void skipBlanks() {
      while (at < length && (signAt(at) == '\n' || signAt(at) == ' ')) {
        at++;
      }
    }

    private void skipLetters() {
      while (at < length && isLetter(signAt(at))) {
        at++;
      }
    }

    /** Held low, for a row of digits may be as long as the text. */
    private int readDigits() {
      int value = 0;
      while (at < length && isDigit(signAt(at))) {
        value = Math.min(value * 10 + signAt(at) - '0', 1000);
        at++;
      }
      return value;
    }

    private int kindOfWord(int start) {
      if (isWord(start, "mint")) {
        return MINT;
      }
      if (isWord(start, "purse")) {
        return PURSE;
      }
      if (isWord(start, "times")) {
        return TIMES;
      }
      if (isWord(start, "change")) {
        return CHANGE;
      }
      return isWord(start, "into") ? INTO : WORD;
    }

    private boolean isWord(int start, String word) {
      if (at - start != word.length()) {
        return false;
      }
      for (int i = 0; i < word.length(); i++) {
        if (signAt(start + i) != word.charAt(i)) {
          return false;
        }
      }
      return true;
    }
  }

  /** Reads a TEXT into a town of its own, TOKEN by TOKEN, up to the first FAULT. */
  private static final class Reader {
    private static final int NO_TOKEN = 1;
    private static final int OUT_OF_PLACE = 2;
    private static final int OUT_OF_BOUNDS = 3;
    private static final int TOO_MANY = 4;

    int fault = 0;
    int place = NONE;
    final Town town = new Town();
    private final Tokens tokens = new Tokens();
    private int at = 0;

    void read(int[] tape, int n) {
      tokens.cutAll(tape, n);
      at = 0;
      fault = 0;
      place = NONE;
      town.empty();
      boolean well = readMint();
      for (int i = 0; i < TAPE_MOST && well && !isNext(Tokens.END); i++) {
        if (isNext(Tokens.PURSE)) {
          well = readPurse();
        } else {
          well = isNext(Tokens.CHANGE) ? readChange() : stop(OUT_OF_PLACE);
        }
      }
    }

    private boolean isNext(int kind) {
      return tokens.kindOf(at) == kind;
    }

    private boolean stop(int told) {
      fault = tokens.kindOf(at) == Tokens.BAD ? NO_TOKEN : told;
      place = tokens.startOf(at);
      return false;
    }

    private boolean readMint() {
      if (!isNext(Tokens.MINT)) {
        return stop(OUT_OF_PLACE);
      }
      at++;
      if (!isNext(Tokens.NUMBER)) {
        return stop(OUT_OF_PLACE);
      }
      for (int i = 0; i < TAPE_MOST && isNext(Tokens.NUMBER); i++) {
        int prime = tokens.valueOf(at);
        if (!Numbers.isSmallPrime(prime) || town.numberOf(prime) != NONE) {
          return stop(OUT_OF_BOUNDS);
        }
        if (town.coins == COINS_MOST) {
          return stop(TOO_MANY);
        }
        town.addCoin(prime);
        at++;
      }
      return endLine();
    }

    private boolean endLine() {
      if (!isNext(Tokens.SEMICOLON)) {
        return stop(OUT_OF_PLACE);
      }
      town.lines++;
      at++;
      return true;
    }

    private boolean readPurse() {
      if (town.people == PEOPLE_MOST) {
        return stop(TOO_MANY);
      }
      at++;
      for (int i = 0; i < TAPE_MOST && isNext(Tokens.NUMBER); i++) {
        if (!readPursed()) {
          return false;
        }
      }
      if (!endLine()) {
        return false;
      }
      town.people++;
      return true;
    }

    /** One COIN of a PURSE with its times; the PERSON isn't counted yet. */
    private boolean readPursed() {
      int c = town.numberOf(tokens.valueOf(at));
      if (c == NONE) {
        return stop(OUT_OF_BOUNDS);
      }
      if (town.many(town.people) + 1 > PURSE_MOST) {
        return stop(TOO_MANY);
      }
      town.come(town.people, c, 1);
      at++;
      return !isNext(Tokens.TIMES) || readTimes(c);
    }

    private boolean readTimes(int c) {
      at++;
      if (!isNext(Tokens.NUMBER)) {
        return stop(OUT_OF_PLACE);
      }
      int times = tokens.valueOf(at);
      if (times < 1 || times > PURSE_MOST) {
        return stop(OUT_OF_BOUNDS);
      }
      if (town.many(town.people) + times - 1 > PURSE_MOST) {
        return stop(TOO_MANY);
      }
      town.come(town.people, c, times - 1);
      at++;
      return true;
    }

    private boolean readChange() {
      if (town.changes == CHANGES_MOST) {
        return stop(TOO_MANY);
      }
      at++;
      if (!readSide(0)) {
        return false;
      }
      if (!isNext(Tokens.INTO)) {
        return stop(OUT_OF_PLACE);
      }
      at++;
      if (!readSide(1) || !endLine()) {
        return false;
      }
      town.changes++;
      return true;
    }

    private boolean readSide(int side) {
      if (!isNext(Tokens.NUMBER)) {
        return stop(OUT_OF_PLACE);
      }
      for (int i = 0; i < TAPE_MOST && isNext(Tokens.NUMBER); i++) {
        int c = town.numberOf(tokens.valueOf(at));
        if (c == NONE) {
          return stop(OUT_OF_BOUNDS);
        }
        if (i == SIDE_MOST) {
          return stop(TOO_MANY);
        }
        town.addToSide(town.changes, side, c);
        at++;
      }
      return true;
    }
  }

  /** All PRICES of one PERSON, in order. */
  private static final class PriceRow {
    /** Nine COINS of eight primes give 3 by 2 to the 7th PRICES, other PURSES fewer. */
    private static final int MOST = 384;

    int many = 0;
    private final long[] sorted = new long[MOST];
    private final long[] base = new long[MOST];

    long at(int k) {
      return k >= 0 && k < many ? sorted[k] : NONE;
    }

    void fill(Town town, int p) {
      sorted[0] = 1;
      many = 1;
      for (int c = 0; c < town.coins; c++) {
        int without = many;
        System.arraycopy(sorted, 0, base, 0, without);
        for (int i = 0; i < town.held(p, c) && many + without <= MOST; i++) {
          mergeTimes(town.primeOf(c), without);
        }
      }
    }

    /** From the back on, so that no number is overwritten ahead of its use: rows in order stay so. */
    private void mergeTimes(int prime, int without) {
      int from = many - 1;
      int other = without - 1;
      many += without;
      for (int to = many - 1; to >= 0; to--) {
        if (from >= 0 && (other < 0 || sorted[from] * prime > base[other])) {
          sorted[to] = sorted[from] * prime;
          from--;
        } else if (other >= 0) {
          sorted[to] = base[other];
          other--;
        }
      }
    }

    long widest() {
      long best = 0;
      for (int k = 1; k < many; k++) {
        best = Math.max(best, at(k) - at(k - 1));
      }
      return best;
    }

    long nearestTo(long n) {
      // 1 is the least PRICE, and below it a difference may be too great for a long.
      long best = 1;
      for (int k = 1; k < many && n > 1; k++) {
        if (Math.abs(at(k) - n) < Math.abs(best - n)) {
          best = at(k);
        }
      }
      return best;
    }

    long rootOf(long worth) {
      long best = 1;
      for (int k = 1; k < many; k++) {
        if (at(k) > 0 && at(k) <= worth / at(k)) {
          best = at(k);
        }
      }
      return best;
    }

    int within(long low, long high) {
      int found = 0;
      for (int k = 0; k < many; k++) {
        if (at(k) >= low && at(k) <= high) {
          found++;
        }
      }
      return found;
    }
  }

  /** Meets PURSES by how many CHANGES lead to them. A PURSE is an int, four bits for each COIN. */
  private static final class Search {
    /** All PURSES of at most 9 COINS of 8 kinds: 9 of 17. */
    private static final int ALL = 24310;
    private static final int WIDTH = COINS_MOST + 1;

    int met = 0;
    private int firstNew = 0;
    private int changes = 0;
    private final int[] queue = new int[ALL];
    private final long[] seen = new long[ALL / LONG_BITS + 1];
    private final int[] goes = new int[CHANGES_MOST];
    private final int[] comes = new int[CHANGES_MOST];
    /** At r and m: how many PURSES of at most r COINS of m kinds there are. */
    private final int[] ways = new int[(PURSE_MOST + 1) * WIDTH];

    Search() {
      for (int r = 0; r <= PURSE_MOST; r++) {
        for (int m = 0; m <= COINS_MOST; m++) {
          boolean edge = r == 0 || m == 0;
          int here = r * WIDTH + m;
          ways[here] = edge ? 1 : ways[here - WIDTH] + ways[here - 1];
        }
      }
    }

    void begin(Town town, int p) {
      Arrays.fill(seen, 0);
      met = 0;
      firstNew = 0;
      changes = Math.min(town.changes, CHANGES_MOST);
      for (int k = 0; k < changes; k++) {
        goes[k] = 0;
        comes[k] = 0;
        for (int c = 0; c < COINS_MOST; c++) {
          goes[k] |= town.onSide(k, 0, c) << 4 * c;
          comes[k] |= town.onSide(k, 1, c) << 4 * c;
        }
      }
      int purse = 0;
      for (int c = 0; c < COINS_MOST; c++) {
        purse |= town.held(p, c) << 4 * c;
      }
      meet(purse);
    }

    boolean hasNew() {
      return firstNew < met;
    }

    /** By one CHANGE more: the new ones are those that were not met ahead of it. */
    void step() {
      int to = met;
      for (int i = firstNew; i < to && i < ALL; i++) {
        for (int k = 0; k < changes && k < CHANGES_MOST; k++) {
          tryChange(queue[i], goes[k], comes[k]);
        }
      }
      firstNew = to;
    }

    boolean newOneHolds(int[] counts) {
      for (int i = firstNew; i < met && i < ALL; i++) {
        if (holds(queue[i], counts)) {
          return true;
        }
      }
      return false;
    }

    long dearestNew(Town town) {
      long best = 0;
      for (int i = firstNew; i < met && i < ALL; i++) {
        long product = 1;
        for (int c = 0; c < town.coins; c++) {
          product *= Numbers.whole(town.primeOf(c), often(queue[i], c));
        }
        best = Math.max(best, product);
      }
      return best;
    }

    private static int often(int purse, int c) {
      return purse >>> 4 * c & 15;
    }

    private static boolean holds(int purse, int[] counts) {
      for (int c = 0; c < COINS_MOST && c < counts.length; c++) {
        if (often(purse, c) < counts[c]) {
          return false;
        }
      }
      return true;
    }

    private void tryChange(int purse, int go, int come) {
      int then = 0;
      for (int c = 0; c < COINS_MOST; c++) {
        if (often(purse, c) < often(go, c)) {
          return;
        }
        then += often(purse, c) - often(go, c) + often(come, c);
      }
      // No four bits flow over: 9 of a COIN and 3 more fit.
      if (then <= PURSE_MOST) {
        meet(purse - go + come);
      }
    }

    private void meet(int purse) {
      int rank = rankOf(purse);
      int word = rank / LONG_BITS;
      long bit = 1L << rank % LONG_BITS;
      if (met >= ALL || word < 0 || word >= seen.length || (seen[word] & bit) != 0) {
        return;
      }
      seen[word] |= bit;
      queue[met] = purse;
      met++;
    }

    /** The place of a PURSE among all, in order: one bit a PURSE is enough then. */
    private int rankOf(int purse) {
      int rank = 0;
      int room = PURSE_MOST;
      for (int c = 0; c < COINS_MOST; c++) {
        int left = Math.max(room - often(purse, c), 0);
        rank += ways[room * WIDTH + COINS_MOST - c] - ways[left * WIDTH + COINS_MOST - c];
        room = left;
      }
      return rank;
    }
  }

  /** Bags of COINS, in order as rows of their numbers. */
  private static final class Bags {
    static final int MOST = 4;
    /** Rows of 4 of 8 numbers that don't fall: 330. */
    private static final int ALL = 330;

    private final int[] coins = new int[MOST];

    /** k NONE: how many fit; else the product of the k-th, NONE: not so many. */
    long seek(Town town, Tray rests, int n, int k) {
      Arrays.fill(coins, 0);
      int found = 0;
      boolean more = town.coins > 0;
      for (int i = 0; i < ALL && more; i++) {
        long product = productOf(town, n);
        if (rests.allRestsOf(product)) {
          if (found == k) {
            return product;
          }
          found++;
        }
        more = nextRow(town.coins, n);
      }
      return k == NONE ? found : NONE;
    }

    private long productOf(Town town, int n) {
      long product = 1;
      for (int i = 0; i < n && i < MOST; i++) {
        product *= town.primeOf(coins[i]);
      }
      return product;
    }

    private boolean nextRow(int kinds, int n) {
      for (int i = Math.min(n, MOST) - 1; i >= 0; i--) {
        if (coins[i] + 1 < kinds) {
          raiseFrom(i, coins[i] + 1);
          return true;
        }
      }
      return false;
    }

    private void raiseFrom(int place, int c) {
      for (int i = Math.max(place, 0); i < MOST; i++) {
        coins[i] = c;
      }
    }
  }

  private static final class Tray {
    int sort = MISSING;
    int many = 0;
    private final long[] numbers = new long[PLACES_MOST];

    void layRow(int newSort, int newMany) {
      sort = newSort;
      many = Math.max(0, Math.min(newMany, PLACES_MOST));
      Arrays.fill(numbers, 0);
    }

    long at(int place) {
      return place >= 0 && place < many ? numbers[place] : 0;
    }

    long put(int place, long v) {
      long there = cutToSort(v);
      if (place >= 0 && place < many) {
        numbers[place] = there;
      }
      return there;
    }

    private long cutToSort(long v) {
      switch (sort) {
        case 0:
          return (byte) v;
        case 1:
          return (short) v;
        case 2:
          return (int) v;
        default:
          return v;
      }
    }

    boolean tellsRests() {
      for (int i = 0; i < many; i += 2) {
        if (at(i) < 2 || at(i) > 1000 || at(i + 1) < 0 || at(i + 1) >= at(i)) {
          return false;
        }
      }
      return many % 2 == 0;
    }

    boolean allRestsOf(long product) {
      for (int i = 0; i < many; i += 2) {
        if (at(i) > 1 && product % at(i) != at(i + 1)) {
          return false;
        }
      }
      return true;
    }
  }

  private static final class Draws {
    int x = 0;

    int below(int bound) {
      x = 1103515245 * x + 12345;
      return bound > 0 ? (x >>> 16) % bound : 0;
    }
  }

  private static final class Numbers {
    static final int GREATEST_PRIME = 97;
    /** The greatest number whose square is not above 1,000,000,000. */
    static final int ROOT_MOST = 31622;
    private static final int[] PRIMES = {2, 3, 5, 7, 11, 13, 17, 19, 23, 29, 31, 37, 41,
        43, 47, 53, 59, 61, 67, 71, 73, 79, 83, 89, 97};

    static boolean isSmallPrime(int n) {
      for (int i = 0; i < PRIMES.length; i++) {
        if (PRIMES[i] == n) {
          return true;
        }
      }
      return false;
    }

    /** Of a number and 0 it is the number. A hundred rounds are more than two longs need. */
    static long commonFactor(long a, long b) {
      long one = a;
      long other = b;
      for (int i = 0; i < 100 && other != 0; i++) {
        long rest = one % other;
        one = other;
        other = rest;
      }
      return one;
    }

    static long whole(int base, int often) {
      long product = 1;
      for (int i = 0; i < often; i++) {
        product *= base;
      }
      return product;
    }

    /** Modulo a number to 1,000,000,000, so that no product is too great for a long. */
    static long power(long base, int often, long by) {
      if (by < 1) {
        return 0;
      }
      long product = 1 % by;
      long square = base % by;
      int left = often;
      for (int i = 0; i < INT_BITS && left > 0; i++) {
        if (left % 2 == 1) {
          product = product * square % by;
        }
        square = square * square % by;
        left /= 2;
      }
      return product;
    }

    static int leastFactor(int n) {
      for (int d = 2; d <= ROOT_MOST && d * d <= n; d++) {
        if (n % d == 0) {
          return d;
        }
      }
      return n;
    }

    /** The least number whose square is not below a number to 1,000,000. */
    static int rootAbove(int n) {
      int root = 1;
      while (root < 1000 && root * root < n) {
        root++;
      }
      return root;
    }

    static boolean isSmooth(int n, int prime) {
      int left = n;
      for (int i = 0; i < PRIMES.length && PRIMES[i] <= prime && left > 1; i++) {
        for (int e = 0; e < INT_BITS && left % PRIMES[i] == 0; e++) {
          left /= PRIMES[i];
        }
      }
      return left == 1;
    }
  }
}
