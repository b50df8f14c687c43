import java.math.BigInteger;

/** Edges of promises 10 to 19: what is paid, changed, taxed, struck, read out, drawn and dealt. */
final class DealsEdges extends Edge {
  private DealsEdges() {
  }

  /** 8 COINS, 9 COINS, 3 COINS, none. */
  private static PrimeCoins filled() {
    return of("mint 2 3;purse 2 times 8;purse 3 times 9;purse 3 3 2;purse;");
  }

  // ---- 10: may

  private static void may(int due, int p, int q, long price) {
    stays(due, DealsEdges::filled, x -> x.may(p, q, price));
  }

  static void promise10_aPriceOf1() {
    may(0, 3, 1, 1);
    may(0, 1, 3, 1);
  }

  static void promise10_noPriceBelow1() {
    may(1, 0, 3, 0);
    may(1, 0, 3, -1);
    may(1, 0, 3, -2);
    may(1, 0, 3, Long.MIN_VALUE);
  }

  static void promise10_noPriceOfCoins() {
    may(1, 0, 3, 5);
    may(1, 0, 3, 10);
    may(1, 0, 3, Long.MAX_VALUE);
    may(1, 0, 3, (1L << 32) + 1);
  }

  static void promise10_allOfThemAndOneMore() {
    may(0, 0, 3, 256);
    may(2, 0, 3, 512);
    may(2, 0, 3, 1L << 62);
    may(2, 3, 0, 2);
    may(2, 0, 3, 6);
  }

  static void promise10_nineAndTen() {
    may(0, 2, 0, 3);
    may(3, 2, 0, 9);
    may(3, 2, 1, 2);
    may(0, 1, 3, 19683);
  }

  static void promise10_theLeastReason() {
    may(1, 3, 1, 14);
    may(2, 3, 1, 2);
    may(2, 2, 1, 16);
  }

  static void promise10_noSuchPerson() {
    int[] none = {-1, 4, Integer.MIN_VALUE, Integer.MAX_VALUE};
    for (int p : none) {
      refused(NSE, DealsEdges::filled, x -> x.may(p, 0, 1));
      refused(NSE, DealsEdges::filled, x -> x.may(0, p, 1));
      refused(NSE, DealsEdges::filled, x -> x.may(p, p, 0));
    }
  }

  static void promise10_bothOne() {
    refused(IAE, DealsEdges::filled, x -> x.may(0, 0, 1));
    refused(IAE, DealsEdges::filled, x -> x.may(3, 3, 0));
  }

  // ---- 11: pay

  private static void paid(int due, int p, int q, long price) {
    PrimeCoins x = filled();
    long hers = x.worth(p);
    long theOther = x.worth(q);
    due("pay " + price, x.pay(p, q, price), due);
    due("hers then", x.worth(p), hers / price);
    due("the other one's then", x.worth(q), theOther * price);
  }

  static void promise11_aPriceOf1HandsNone() {
    stays(0, DealsEdges::filled, x -> x.pay(3, 1, 1));
    stays(0, DealsEdges::filled, x -> x.pay(0, 1, 1));
  }

  static void promise11_allOfAPurse() {
    paid(8, 0, 3, 256);
    paid(3, 2, 3, 18);
    paid(9, 1, 3, 19683);
  }

  static void promise11_itCantBe() {
    stays(-1, DealsEdges::filled, x -> x.pay(0, 3, 0));
    stays(-1, DealsEdges::filled, x -> x.pay(0, 3, -2));
    stays(-1, DealsEdges::filled, x -> x.pay(0, 3, Long.MIN_VALUE));
    stays(-1, DealsEdges::filled, x -> x.pay(0, 3, 10));
    stays(-2, DealsEdges::filled, x -> x.pay(0, 3, 512));
    stays(-2, DealsEdges::filled, x -> x.pay(0, 3, 6));
    stays(-3, DealsEdges::filled, x -> x.pay(2, 0, 9));
    stays(-3, DealsEdges::filled, x -> x.pay(2, 1, 2));
    stays(-2, DealsEdges::filled, x -> x.pay(2, 1, 4));
  }

  static void promise11_theNinthFits() {
    paid(1, 2, 0, 3);
    PrimeCoins x = filled();
    x.pay(2, 0, 3);
    due("a tenth doesn't", x.pay(2, 0, 3), -3);
    due("nine", x.purse(0, 0), 9);
  }

  static void promise11_throwsLikewise() {
    int[] none = {-1, 4, Integer.MIN_VALUE, Integer.MAX_VALUE};
    for (int p : none) {
      refused(NSE, DealsEdges::filled, x -> x.pay(p, 0, 1));
      refused(NSE, DealsEdges::filled, x -> x.pay(0, p, 2));
      refused(NSE, DealsEdges::filled, x -> x.pay(p, p, 2));
    }
    refused(IAE, DealsEdges::filled, x -> x.pay(0, 0, 2));
    refused(IAE, DealsEdges::filled, x -> x.pay(1, 1, 0));
  }

  // ---- 12: changes

  private static PrimeCoins changing() {
    return of("mint 2 3 5;purse 2 3 3;purse 3 times 8;purse 3 times 9;purse 2 2 5 times 7;purse;"
        + "change 3 into 2 5;change 2 2 into 5;change 3 into 2 2 2;change 3 into 5;change 2 2 5 into 2 2 2;");
  }

  static void promise12_notAllAreThere() {
    stays(-2, DealsEdges::changing, x -> x.changes(0, 1));
    stays(-2, DealsEdges::changing, x -> x.changes(4, 0));
    stays(-2, DealsEdges::changing, x -> x.changes(0, 4));
    stays(-2, DealsEdges::changing, x -> x.changes(2, 1));
    PrimeCoins x = changing();
    due("all are there", x.changes(3, 1), 8);
    due("no more", x.changes(3, 1), -2);
    due("then", x.worth(3), 390625);
  }

  static void promise12_nineAndTen() {
    PrimeCoins x = changing();
    due("eight become nine", x.changes(1, 0), 9);
    due("then", x.worth(1), 2187L * 10);
    due("no tenth", x.changes(1, 0), -3);
    stays(-3, DealsEdges::changing, y -> y.changes(1, 2));
    stays(-3, DealsEdges::changing, y -> y.changes(2, 0));
    due("nine stay nine", changing().changes(2, 3), 9);
    due("nine with as many more", changing().changes(3, 4), 9);
  }

  static void promise12_theLeastReason() {
    PrimeCoins x = of("mint 2 3;purse 3 times 9;change 2 into 3 3 3;");
    due("not there ahead of too many", x.changes(0, 0), -2);
  }

  static void promise12_noSuchPersonOrChange() {
    int[] none = {-1, 5, Integer.MIN_VALUE, Integer.MAX_VALUE};
    for (int k : none) {
      refused(NSE, DealsEdges::changing, x -> x.changes(k, 0));
      refused(NSE, DealsEdges::changing, x -> x.changes(0, k));
    }
    refused(NSE, () -> of("mint 2;purse 2;"), x -> x.changes(0, 0));
  }

  // ---- 13: tax

  static void promise13_anEmptyPurse() {
    stays(NONE, DealsEdges::filled, x -> x.tax(3));
  }

  static void promise13_theLastCoin() {
    PrimeCoins x = of("mint 3 2;purse 2;");
    due("tax", x.tax(0), 2);
    due("empty", x.purse(0, 0), 0);
    due("treasury", x.treasury(2), 1);
    due("none then", x.tax(0), NONE);
    due("treasury stays", x.count(5), 1);
  }

  static void promise13_theGreatestPrimeNotTheLastCoin() {
    PrimeCoins x = of("mint 97 2 89;purse 2 89 97 97;");
    int[] due = {97, 97, 89, 2, NONE};
    for (int prime : due) {
      due("tax", x.tax(0), prime);
    }
  }

  static void promise13_noSuchPerson() {
    int[] none = {-1, 3, Integer.MIN_VALUE, Integer.MAX_VALUE};
    for (int p : none) {
      refused(NSE, x -> x.tax(p));
    }
  }

  // ---- 14: strike

  static void promise14_theNinthAndTheTenth() {
    PrimeCoins x = filled();
    due("the ninth", x.strike(0, 3), 9);
    due("worth", x.worth(0), 768);
    refused(ISE, DealsEdges::filled, y -> y.strike(1, 3));
    refused(ISE, DealsEdges::filled, y -> y.strike(1, 2));
  }

  static void promise14_theFirst() {
    PrimeCoins x = filled();
    due("the first", x.strike(3, 2), 1);
    due("worth", x.worth(3), 2);
  }

  static void promise14_noCoin() {
    int[] none = {0, 1, -1, -2, 4, 5, 6, 97, Integer.MIN_VALUE, Integer.MAX_VALUE};
    for (int prime : none) {
      refused(IAE, DealsEdges::filled, x -> x.strike(3, prime));
      refused(IAE, DealsEdges::filled, x -> x.strike(1, prime));
    }
  }

  static void promise14_noSuchPersonFirst() {
    int[] none = {-1, 4, Integer.MIN_VALUE, Integer.MAX_VALUE};
    for (int p : none) {
      refused(NSE, DealsEdges::filled, x -> x.strike(p, 2));
      refused(NSE, DealsEdges::filled, x -> x.strike(p, 5));
    }
  }

  // ---- 15: treasury

  static void promise15_noCoin() {
    int[] none = {0, 1, -1, 7, 10, Integer.MIN_VALUE, Integer.MAX_VALUE};
    for (int prime : none) {
      due("treasury " + prime, rich().treasury(prime), 0);
    }
    due("a coin of none", rich().treasury(2), 0);
    due("a coin of one", rich().treasury(5), 1);
  }

  /** By years, for no object has calls enough; the last ones by hand. Bounds, for a wrong program may never get there. */
  private static PrimeCoins taxed(int many) {
    PrimeCoins x = of("mint 2 3;purse;");
    for (int seed = 1; seed < 200 && x.treasury(3) < many - 25; seed++) {
      x.year(seed, 60);
    }
    for (int i = 0; i < 9; i++) {
      x.tax(0);
    }
    for (int i = 0; i < 50 && x.treasury(3) < many; i++) {
      x.strike(0, 3);
      x.tax(0);
    }
    due("so many", x.treasury(3), many);
    return x;
  }

  static void promise15_999AtMost() {
    PrimeCoins x = taxed(998);
    int twos = x.treasury(2);
    x.strike(0, 3);
    x.strike(0, 3);
    x.strike(0, 2);
    due("the 999th", x.tax(0), 3);
    due("is there", x.treasury(3), 999);
    due("one more goes", x.tax(0), 3);
    due("it is lost", x.treasury(3), 999);
    due("it isn't in the purse", x.worth(0), 2);
    due("another coin", x.tax(0), 2);
    due("is there", x.treasury(2), twos + 1);
    due("all", x.count(5), 1000 + twos);
  }

  static void promise15_999AtMostByYearsToo() {
    PrimeCoins x = taxed(999);
    int twos = x.treasury(2);
    int before = x.purse(0, 0);
    int grown = x.year(7, 60) + x.year(8, 60);
    due("what came less what went", x.purse(0, 0), before + grown);
    due("no more", x.treasury(3), 999);
    due("others", x.treasury(2) >= twos, true);
  }

  // ---- 16: readOut

  static void promise16_byOne() {
    due("of none", fresh().readOut(1), 0);
    due("of one", rich().readOut(1), 0);
  }

  static void promise16_bounds() {
    long[] wrong = {0, -1, 1000000001L, Long.MIN_VALUE, Long.MAX_VALUE, 1L << 32, (1L << 32) + 7};
    for (long by : wrong) {
      refused(IAE, x -> x.readOut(by));
    }
    due("the greatest", rich().readOut(1000000000L), 5);
    due("the greatest of none", fresh().readOut(1000000000L), 1);
    due("by itself", rich().readOut(5), 0);
    due("by less", rich().readOut(4), 1);
    due("by more", rich().readOut(6), 5);
  }

  static void promise16_aFullTreasury() {
    PrimeCoins x = taxed(999);
    BigInteger all = BigInteger.valueOf(3).pow(999).multiply(BigInteger.valueOf(2).pow(x.treasury(2)));
    long[] bys = {1, 7, 1000, 65537, 999999937, 999999999, 1000000000};
    for (long by : bys) {
      due("by " + by, x.readOut(by), all.mod(BigInteger.valueOf(by)));
    }
  }

  // ---- 17: year

  private static long next(long x) {
    return x * 1103515245L + 12345 & 0xffffffffL;
  }

  /** The first seed at or behind one by which the first turn is a TAX, or is none. */
  private static int seedOf(int from, boolean taxing, int person, int people) {
    for (int seed = from; ; seed++) {
      long first = next(seed & 0xffffffffL);
      if ((first >> 16) % people == person && (next(first) >> 16) % 4 == 0 == taxing) {
        return seed;
      }
    }
  }

  static void promise17_timesBounds() {
    int[] wrong = {0, -1, 61, Integer.MIN_VALUE, Integer.MAX_VALUE};
    for (int times : wrong) {
      refused(IAE, x -> x.year(1, times));
      refused(IAE, Edge::fresh, x -> x.year(1, times));
      refused(IAE, () -> of("mint 2;"), x -> x.year(1, times));
    }
  }

  static void promise17_onceAndSixtyTimes() {
    due("once", of("mint 2;purse;").year(seedOf(0, false, 0, 1), 1), 1);
    // As often as by hand: one coin, one person, drawn three by three or two by two.
    PrimeCoins x = of("mint 2;purse;");
    long drawn = 5;
    int coins = 0;
    int taxes = 0;
    for (int i = 0; i < 60; i++) {
      drawn = next(next(drawn));
      if ((drawn >> 16) % 4 == 0) {
        taxes += coins > 0 ? 1 : 0;
        coins = Math.max(0, coins - 1);
      } else {
        drawn = next(drawn);
        coins = Math.min(9, coins + 1);
      }
    }
    due("sixty times", x.year(5, 60), coins);
    due("in the purse", x.purse(0, 0), coins);
    due("in the treasury", x.treasury(2), taxes);
  }

  static void promise17_noPeople() {
    refused(ISE, Edge::fresh, x -> x.year(1, 1));
    refused(ISE, Edge::fresh, x -> x.year(1, 60));
    refused(ISE, () -> of("mint 2;"), x -> x.year(1, 1));
  }

  static void promise17_aTaxOfAnEmptyPurse() {
    stays(0, () -> of("mint 2 3;purse;purse 2;"), x -> x.year(seedOf(0, true, 0, 2), 1));
  }

  static void promise17_aTaxOfTheLastCoin() {
    PrimeCoins x = of("mint 2 3;purse 2;purse 3;");
    due("one less", x.year(seedOf(0, true, 0, 2), 1), -1);
    due("empty", x.purse(0, 0), 0);
    due("the other one's", x.purse(1, 0), 1);
    due("treasury", x.treasury(2), 1);
  }

  static void promise17_theNinthComesATenthDoesnt() {
    int seed = seedOf(0, false, 0, 1);
    PrimeCoins x = of("mint 2;purse 2 times 8;");
    due("the ninth", x.year(seed, 1), 1);
    due("nine", x.purse(0, 0), 9);
    stays(0, () -> of("mint 2;purse 2 times 9;"), y -> y.year(seed, 1));
  }

  /** The lowest 32 bits are kept, and they are shifted without their sign. */
  static void promise17_theDrawWrapsAround() {
    int[] seeds = {Integer.MIN_VALUE, Integer.MIN_VALUE + 1, -1, 0, 1, Integer.MAX_VALUE - 1, Integer.MAX_VALUE, 1 << 16};
    for (int seed : seeds) {
      long first = next(seed & 0xffffffffL);
      long second = next(first);
      long third = next(second);
      int person = (int) ((first >> 16) % 5);
      boolean taxing = (second >> 16) % 4 == 0;
      int coin = (int) ((third >> 16) % 8);
      PrimeCoins x = of("mint 2 3 5 7 11 13 17 19;purse 2 3;purse 2 5;purse 2 7;purse 2 11;purse 2 13;");
      int[] greatest = {3, 5, 7, 11, 13};
      int prime = taxing ? greatest[person] : x.coin(coin);
      int before = x.has(person, prime);
      due("year " + seed, x.year(seed, 1), taxing ? -1 : 1);
      due("has then " + seed, x.has(person, prime), before + (taxing ? -1 : 1));
      due("treasury " + seed, x.treasury(prime), taxing ? 1 : 0);
    }
  }

  /** x is negative behind the first draw: shifted with its sign it would name another PERSON, or none. */
  static void promise17_aNegativeDraw() {
    for (int i = 0, seed = 0; i < 20; seed++) {
      long first = next(seed);
      if (first < 1L << 31 || (next(first) >> 16) % 4 == 0) {
        continue;
      }
      i++;
      PrimeCoins x = of("mint 2;purse;purse;purse;");
      due("year " + seed, x.year(seed, 1), 1);
      due("who has it " + seed, x.purse((int) ((first >> 16) % 3), 0), 1);
    }
  }

  // ---- 18: judge

  /** 8 COINS, 9 COINS, a 2 and a 3, none, a 3. */
  private static PrimeCoins dealing() {
    return of("mint 2 3;purse 2 times 8;purse 3 times 9;purse 2 3;purse;purse 3;");
  }

  private static void why(int why, long deal) {
    PrimeCoins x = dealing();
    Check.row(x, 0, 3, deal);
    due("where " + deal, x.judge(0, 0), why == 0 ? NONE : 0);
    due("why " + deal, x.judge(0, 1), why);
    due("made " + deal, x.perform(0), why == 0 ? 1 : 0);
  }

  static void promise18_noSuchTray() {
    int[] none = {-1, 4, Integer.MIN_VALUE, Integer.MAX_VALUE};
    for (int t : none) {
      refused(NSE, x -> x.judge(t, 0));
      refused(NSE, x -> x.judge(t, 3));
    }
  }

  static void promise18_aMissingTray() {
    refused(ISE, x -> x.judge(3, 0));
    refused(ISE, x -> x.judge(3, 3));
    refused(ISE, Edge::fresh, x -> x.judge(0, -1));
  }

  static void promise18_anotherWhat() {
    int[] others = {-1, 3, Integer.MIN_VALUE, Integer.MAX_VALUE};
    for (int what : others) {
      refused(IAE, x -> x.judge(0, what));
      refused(IAE, x -> x.judge(2, what));
    }
  }

  static void promise18_anEmptyTray() {
    stays(NONE, x -> x.judge(2, 0));
    stays(0, x -> x.judge(2, 1));
    stays(0, x -> x.judge(2, 2));
  }

  static void promise18_judgedAlone() {
    stays(NONE, x -> x.judge(0, 0));
    stays(0, x -> x.judge(0, 1));
    // 12, 9 and 3 become 6, 6 and 9.
    stays(2, x -> x.judge(0, 2));
  }

  static void promise18_thePlaces() {
    PrimeCoins x = dealing();
    long[] deals = new long[30];
    for (int i = 0; i < 30; i++) {
      deals[i] = i % 2 == 0 ? 4303 : 3403;
    }
    Check.row(x, 0, 1, deals);
    due("thirty can be", x.judge(0, 0), NONE);
    due("why not", x.judge(0, 1), 0);
    x.write(0, 29, 4303);
    due("the last can't", x.judge(0, 0), 29);
    due("why", x.judge(0, 1), 2);
    x.write(0, 0, 4403);
    due("the first can't", x.judge(0, 0), 0);
    due("why", x.judge(0, 1), 1);
  }

  static void promise18_noSuchPersonInADeal() {
    why(0, 4303);
    why(1, 5303);
    why(0, 302);
    why(0, 402);
    why(1, 502);
    why(1, 902);
    why(1, 1003 + 10000);
    why(1, 10302);
  }

  /** The giver alone has any, so none other can be taken for the giver. */
  static void promise18_eachGiverAndGetter() {
    int[] primes = {2, 97};
    for (int p = 0; p < 5; p++) {
      String text = "mint 2 97;" + "purse;".repeat(p) + "purse 2 97;" + "purse;".repeat(4 - p);
      for (int q = 0; q < 5; q++) {
        for (int prime : primes) {
          PrimeCoins x = of(text);
          Check.row(x, 0, 3, 1000 * p + 100 * q + prime);
          due(p + " gives " + q + " a " + prime, x.judge(0, 1), p == q ? 1 : 0);
          due("made", x.perform(0), p == q ? 0 : 1);
          due("the giver has", x.has(p, prime), p == q ? 1 : 0);
          due("the getter has", x.has(q, prime), 1);
        }
      }
    }
  }

  static void promise18_onePersonAlone() {
    PrimeCoins x = of("mint 2;purse 2;");
    Check.row(x, 0, 2, 102);
    due("who", x.judge(0, 2), 0);
    due("why", x.judge(0, 1), 1);
    Check.row(x, 0, 2, 2);
    due("to oneself", x.judge(0, 1), 1);
  }

  static void promise18_bothOneInADeal() {
    for (int p = 0; p < 5; p++) {
      why(1, 1100 * p + 2);
      why(1, 1100 * p + 3);
    }
  }

  static void promise18_noCoinInADeal() {
    long[] none = {300, 301, 304, 305, 306, 397, 399, 3000, 0, 1};
    for (long deal : none) {
      why(1, deal);
    }
  }

  static void promise18_numbersThatAreNoDeals() {
    long[] none = {-1, -302, -2302, -98, -998, Long.MIN_VALUE, Long.MAX_VALUE, (1L << 32) + 302, -(1L << 32) + 302,
        1000L * (1L << 32) + 302};
    for (long deal : none) {
      why(1, deal);
    }
  }

  static void promise18_itIsntThere() {
    why(0, 2302);
    why(2, 3202);
    why(2, 303);
    why(2, 4302);
    PrimeCoins x = dealing();
    Check.row(x, 0, 2, 2302, 2302);
    due("it is there once", x.judge(0, 0), 1);
    due("then it isn't", x.judge(0, 1), 2);
    Check.row(x, 0, 2, 2302, 3202, 2302, 3402);
    due("it comes again", x.judge(0, 0), NONE);
  }

  static void promise18_nineAndTen() {
    why(0, 2003);
    why(3, 2103);
    why(3, 4103);
    PrimeCoins x = dealing();
    Check.row(x, 0, 2, 2003, 2002);
    due("the ninth fits, the tenth doesn't", x.judge(0, 0), 1);
    due("why", x.judge(0, 1), 3);
    Check.row(x, 0, 2, 1303, 2102, 2103);
    due("room for one", x.judge(0, 0), 2);
    due("why", x.judge(0, 1), 3);
  }

  static void promise18_theLeastReason() {
    why(2, 3102);
    why(2, 102 + 3000);
    why(1, 2105);
    why(1, 1103);
  }

  static void promise18_withoutPeople() {
    PrimeCoins x = fresh();
    Check.row(x, 0, 2);
    due("who", x.judge(0, 2), NONE);
    due("where", x.judge(0, 0), NONE);
    Check.row(x, 0, 2, 102);
    due("who", x.judge(0, 2), NONE);
    due("where", x.judge(0, 0), 0);
    due("why", x.judge(0, 1), 1);
  }

  static void promise18_theFirstOfTheGreatest() {
    PrimeCoins x = of("mint 2 3;purse;purse 2 3;purse 3 2;purse;");
    Check.row(x, 0, 2);
    due("the first of two", x.judge(0, 2), 1);
    Check.row(x, 0, 2, 1002, 1003);
    due("then", x.judge(0, 2), 0);
    PrimeCoins none = of("mint 2;purse;purse;purse;");
    Check.row(none, 0, 2);
    due("the first of all", none.judge(0, 2), 0);
  }

  // ---- 19: perform

  static void promise19_noSuchTray() {
    int[] none = {-1, 4, Integer.MIN_VALUE, Integer.MAX_VALUE};
    for (int t : none) {
      refused(NSE, x -> x.perform(t));
    }
  }

  static void promise19_aMissingTray() {
    refused(ISE, x -> x.perform(3));
    refused(ISE, Edge::fresh, x -> x.perform(0));
  }

  static void promise19_anEmptyTray() {
    stays(0, x -> x.perform(2));
  }

  static void promise19_theFirstCantBe() {
    PrimeCoins x = rich();
    x.write(0, 0, 3002);
    String before = townOf(x);
    due("none", x.perform(0), 0);
    due("all stays", townOf(x), before);
  }

  static void promise19_tillOneCantBe() {
    PrimeCoins x = rich();
    x.write(0, 2, 2202);
    due("two", x.perform(0), 2);
    due("hers", x.worth(0), 18);
    due("the second's", x.worth(1), 6);
    due("the third's", x.worth(2), 3);
    Check.row(x, 0, 2, 1003, 1107, 3);
    due("those behind aren't made", x.perform(0), 1);
    due("hers", x.worth(0), 54);
  }

  static void promise19_allOfAFullTray() {
    PrimeCoins x = dealing();
    long[] deals = new long[30];
    for (int i = 0; i < 30; i++) {
      deals[i] = i % 2 == 0 ? 4303 : 3403;
    }
    Check.row(x, 0, 1, deals);
    due("thirty", x.perform(0), 30);
    due("where it began", x.worth(4), 3);
    x.write(0, 29, 4303);
    due("twenty-nine", x.perform(0), 29);
    due("where it went", x.worth(3), 3);
  }

  static void promise19_nobody() {
    PrimeCoins x = fresh();
    Check.row(x, 0, 2, 102);
    due("none", x.perform(0), 0);
  }
}
