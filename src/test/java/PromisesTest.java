import java.util.NoSuchElementException;

/** For each promise of the document at least one test that fails where it is broken. */
public final class PromisesTest {
  private static final Class<NoSuchElementException> NSE = NoSuchElementException.class;
  private static final Class<IllegalArgumentException> IAE = IllegalArgumentException.class;
  private static final Class<IllegalStateException> ISE = IllegalStateException.class;
  private static final Class<IndexOutOfBoundsException> IOOBE = IndexOutOfBoundsException.class;

  /** Worths 168, 25 and 1. */
  private static final String THREE = "mint 2 3 5 7;purse 2 times 3 3 7;purse 5 5;purse;"
      + "change 2 2 into 5;change 7 into 2 3;";

  private PromisesTest() {
  }

  public static void main(String[] args) {
    theTown();
    theText();
    deals();
    thePrices();
    searches();
    twoPurses();
    missing();
    numbers();
    theDebts();
    traysAndImages();
    Check.close("PromisesTest");
  }

  private static PrimeCoins three() {
    return Check.of(THREE);
  }

  private static void theTown() {
    newObject();
    feeding();
    readingTowns();
    faults();
    coinsAndPurses();
    sidesOfChanges();
  }

  private static void newObject() {
    PrimeCoins x = new PrimeCoins();
    Check.due("1 NONE", PrimeCoins.NONE, -1);
    Check.due("1 SPENT", PrimeCoins.SPENT, -1000);
    for (int what = 0; what <= 7; what++) {
      Check.due("1 count " + what, x.count(what), 0);
    }
    Check.throwsDue("1 no coin", NSE, () -> x.coin(0));
    Check.throwsDue("1 no person", NSE, () -> x.worth(0));
    Check.throwsDue("1 no change", NSE, () -> x.change(0, 0));
    for (int tray = 0; tray < 4; tray++) {
      int t = tray;
      Check.throwsDue("1 missing " + t, ISE, () -> x.write(t, 0, 1));
      Check.throwsDue("1 missing " + t, ISE, () -> x.pour(t));
      Check.throwsDue("1 missing " + t, ISE, () -> x.perform(t));
    }
    for (int image = 0; image < 3; image++) {
      int i = image;
      Check.throwsDue("1 no image " + i, ISE, () -> { x.restore(i); return 0; });
    }
    Check.due("1 fault", x.fault(0), 0);
    Check.due("1 fault's place", x.fault(1), -1);
    Check.due("1 gainer", x.gainer(), -1);
    Check.due("1 friends", x.friends(), 0);
    Check.due("1 readOut", x.readOut(12), 1);
    Check.due("1 struck", x.struck(), 0);
    Check.due("1 a price of no coins", x.together(0, 1, 0), 0);
  }

  private static void feeding() {
    PrimeCoins x = new PrimeCoins();
    for (int i = 1; i <= 35; i++) {
      Check.due("2 feed " + i, x.feed(0x20202020, 0x20202020, 0x20202020, 0x20202020, 0x20202020), 20 * i);
    }
    Check.due("2 feed above 700", x.feed(0, 0, 0, 0, 0), -1);
    Check.due("2 the tape stays", x.count(7), 700);
    Check.due("2 blanks alone", x.town(700), -12);
    Check.due("2 their end", x.fault(1), 700);
    // "mint" "2;pu" "rse " "2   " and signs behind, the highest byte of each int first
    Check.due("2 feed", x.feed(0x6d696e74, 0x323b7075, 0x72736520, 0x323b2020, 0xff010203), 20);
    Check.due("2 the order of bytes", x.town(16), 2);
    Check.due("2 a worth", x.worth(0), 2);
    x.feed(0x6d696e74, 0x20323b20, 0x20202020, 0x20202020, 0xe9202020);
    Check.due("2 a sign above 127", x.town(20), -11);
    Check.due("2 its place", x.fault(1), 16);
  }

  private static void readingTowns() {
    PrimeCoins x = three();
    Check.due("3 lines", x.count(0), 6);
    Check.due("3 the tape is empty then", x.count(7), 0);
    Check.feed(x, "mint 2;");
    Check.throwsDue("3 below 0", IAE, () -> x.town(-1));
    Check.throwsDue("3 above", IAE, () -> x.town(21));
    Check.due("3 the tape stays", x.count(7), 20);
    Check.due("3 the town stays", x.count(1), 4);
    x.owe(0, 1, 6);
    x.tax(0);
    Check.due("3 a fault", x.town(6), -12);
    Check.due("3 the tape is empty behind a fault", x.count(7), 0);
    Check.due("3 debts stay", x.owed(0, 1), 6);
    Check.due("3 the treasury stays", x.count(5), 1);
    Check.due("3 purses stay", x.worth(0), 24);
    Check.due("3 lines stay", x.count(0), 6);
    Check.due("3 a new town", Check.town(x, "mint 5 2;purse 2;purse 5;"), 3);
    Check.due("3 no debts", x.owed(0, 1), 1);
    Check.due("3 no debts", x.count(6), 0);
    Check.due("3 an empty treasury", x.count(5), 0);
    Check.due("3 new coins", x.coin(0), 5);
    Check.due("3 new people", x.count(2), 2);
    Check.due("3 no changes", x.count(3), 0);
    Check.feed(x, "mint 2;purse 2;");
    Check.due("3 the first bytes alone", x.town(7), 1);
    Check.due("3 nobody", x.count(2), 0);
  }

  private static void faults() {
    PrimeCoins x = new PrimeCoins();
    Check.due("4 of no text", x.town(0), -12);
    Check.due("4 the fault", x.fault(0), 2);
    Check.due("4 its place", x.fault(1), 0);
    Check.throwsDue("4 a throw", IAE, () -> x.town(1));
    Check.due("4 it stays behind a throw", x.fault(0), 2);
    Check.due("4 another", x.fault(2), -1);
    Check.due("4 another", x.fault(-1), -1);
    Check.due("4 a town", Check.town(x, "mint 2;"), 1);
    Check.due("4 no fault", x.fault(0), 0);
    Check.due("4 no place", x.fault(1), -1);
  }

  private static void coinsAndPurses() {
    PrimeCoins x = Check.of("mint 97 2 5 3;purse 3 97 3 2;purse;purse 5 times 9;");
    Check.due("5 coin 0", x.coin(0), 97);
    Check.due("5 coin 3", x.coin(3), 3);
    Check.throwsDue("5 below", NSE, () -> x.coin(-1));
    Check.throwsDue("5 above", NSE, () -> x.coin(4));
    Check.due("6 two", x.has(0, 3), 2);
    Check.due("6 one", x.has(0, 97), 1);
    Check.due("6 none there", x.has(0, 5), 0);
    Check.due("6 no coin", x.has(0, 7), 0);
    Check.due("6 no prime", x.has(0, 0), 0);
    Check.due("6 nine", x.has(2, 5), 9);
    Check.throwsDue("6 below", NSE, () -> x.has(-1, 2));
    Check.throwsDue("6 above", NSE, () -> x.has(3, 2));
    int[][] due = {{4, 3, 97, 2}, {0, 0, 1, 1}, {9, 1, 5, 5}};
    for (int p = 0; p < 3; p++) {
      for (int what = 0; what < 4; what++) {
        Check.due("7 purse " + p + " " + what, x.purse(p, what), due[p][what]);
      }
    }
    PrimeCoins low = Check.of("mint 2 3;purse 3 2;");
    Check.due("7 the least is the first coin", low.purse(0, 3), 2);
    Check.due("7 the greatest is the last", low.purse(0, 2), 3);
    Check.throwsDue("7 what", IAE, () -> x.purse(0, 4));
    Check.throwsDue("7 what", IAE, () -> x.purse(0, -1));
    Check.throwsDue("7 the person first", NSE, () -> x.purse(3, 4));
    Check.due("8 worth", x.worth(0), 2L * 3 * 3 * 97);
    Check.due("8 of none", x.worth(1), 1);
    Check.due("8 of nine", x.worth(2), 1953125);
    Check.throwsDue("8 above", NSE, () -> x.worth(3));
    Check.throwsDue("8 below", NSE, () -> x.worth(-1));
    Check.due("8 the greatest", Check.of("mint 97;purse 97 times 9;").worth(0), 760231058654565217L);
  }

  private static void sidesOfChanges() {
    PrimeCoins x = Check.of("mint 2 3 97;change 2 3 2 into 97 97 97;change 3 into 2;");
    Check.due("9 the first side", x.change(0, 0), 12);
    Check.due("9 the second", x.change(0, 1), 912673);
    Check.due("9 another change", x.change(1, 0), 3);
    Check.due("9 another change", x.change(1, 1), 2);
    Check.throwsDue("9 none", NSE, () -> x.change(2, 0));
    Check.throwsDue("9 none", NSE, () -> x.change(-1, 0));
    Check.throwsDue("9 what", IAE, () -> x.change(0, 2));
    Check.throwsDue("9 what", IAE, () -> x.change(0, -1));
    Check.throwsDue("9 the change first", NSE, () -> x.change(2, 2));
  }

  private static void fault(String text, int kind, int place) {
    PrimeCoins x = new PrimeCoins();
    Check.due("3 " + text, Check.town(x, text), -10 - kind);
    Check.due("4 kind of " + text, x.fault(0), kind);
    Check.due("4 place of " + text, x.fault(1), place);
  }

  private static void lines(String text, int lines) {
    Check.due("3 " + text, Check.town(new PrimeCoins(), text), lines);
  }

  private static void theText() {
    noToken();
    outOfPlace();
    outOfBounds();
    tooMany();
    wellTold();
  }

  private static void noToken() {
    fault("Mint 2;", 1, 0);
    fault("mint 2, 3;", 1, 6);
    fault("mint 1000;", 1, 5);
    fault("mint 2 0002;", 1, 7);
    fault("mint 12345678901234567890;", 1, 5);
    fault("mint 2;\tpurse;", 1, 7);
    fault("mint 2;\rpurse;", 1, 7);
    fault("mint 2;purse 2 times 1000;", 1, 21);
    fault("mint 2;change 2 -> 2;", 1, 16);
    fault("mint 2;purse 2 times 2:", 1, 22);
    fault("{", 1, 0);
    fault("`", 1, 0);
    fault("mint /", 1, 5);
    fault("mint :", 1, 5);
    // The first along the text: what stands out of place ahead of what is no token.
    fault("purse !", 2, 0);
    fault("! purse", 1, 0);
  }

  private static void outOfPlace() {
    fault("   ", 2, 3);
    fault("\n\n", 2, 2);
    fault("2;", 2, 0);
    fault(";", 2, 0);
    fault("z;", 2, 0);
    fault("a;", 2, 0);
    fault("pint 2;", 2, 0);
    fault("mins 2;", 2, 0);
    fault("mint 2;nurse;", 2, 7);
    fault("mint 2;purge;", 2, 7);
    fault("mint 2;strange 2 into 2;", 2, 7);
    fault("mint 2;purse 2 limes 2;", 2, 15);
    fault("mint 2;change 2 onto 2;", 2, 16);
    fault("mints 2;", 2, 0);
    fault("min 2;", 2, 0);
    fault("mint", 2, 4);
    fault("mint;", 2, 4);
    fault("mint 2", 2, 6);
    fault("mint 2  ", 2, 8);
    fault("mint 2 x;", 2, 7);
    fault("mint 2 times 3;", 2, 7);
    fault("mint 2;;", 2, 7);
    fault("mint 2;2;", 2, 7);
    fault("mint 2;mint 3;", 2, 7);
    fault("mint 2;times 3;", 2, 7);
    fault("mint 2;into 3;", 2, 7);
    fault("mint 2;purses;", 2, 7);
    fault("mint 2;purse", 2, 12);
    fault("mint 2;purse times 2;", 2, 13);
    fault("mint 2;purse 2 times;", 2, 20);
    fault("mint 2;purse 2 times times 2;", 2, 21);
    fault("mint 2;purse 2 times 2 times 2;", 2, 23);
    fault("mint 2;purse 2 into 2;", 2, 15);
    fault("mint 2;purse 2 purse;", 2, 15);
    fault("mint 2;change;", 2, 13);
    fault("mint 2;change into 2;", 2, 14);
    fault("mint 2;change 2;", 2, 15);
    fault("mint 2;change 2 into;", 2, 20);
    fault("mint 2;change 2 into 2 into 2;", 2, 23);
    fault("mint 2;change 2 times 2 into 2;", 2, 16);
    fault("mint 2;change 2 into 2", 2, 22);
    fault("mint 2;change 2 into 2 times 2;", 2, 23);
  }

  private static void outOfBounds() {
    fault("mint 0;", 3, 5);
    fault("mint 1;", 3, 5);
    fault("mint 4;", 3, 5);
    fault("mint 91;", 3, 5);
    fault("mint 98;", 3, 5);
    fault("mint 101;", 3, 5);
    fault("mint 2 3 2;", 3, 9);
    fault("mint 2 3 5 7 11 13 17 19 4;", 3, 25);
    fault("mint 2 3 5 7 11 13 17 19 2;", 3, 25);
    fault("mint 2;purse 3;", 3, 13);
    fault("mint 2;purse 0;", 3, 13);
    fault("mint 2;purse 2 times 9 3;", 3, 23);
    fault("mint 2;purse 2 times 0;", 3, 21);
    fault("mint 2;purse 2 times 10;", 3, 21);
    fault("mint 2;purse 2 2 times 10;", 3, 23);
    fault("mint 2;purse 2 times 999;", 3, 21);
    fault("mint 2;change 3 into 2;", 3, 14);
    fault("mint 2;change 2 into 3;", 3, 21);
    fault("mint 2;change 2 2 2 3 into 2;", 3, 20);
  }

  private static void tooMany() {
    fault("mint 2 3 5 7 11 13 17 19 23;", 4, 25);
    fault("mint 2;purse;purse;purse;purse;purse;purse;", 4, 37);
    fault("mint 2;purse;purse;purse;purse;purse;purse 3 !", 4, 37);
    fault("mint 2;purse 2 times 9 2;", 4, 23);
    fault("mint 2 3;purse 3 2 times 9;", 4, 25);
    fault("mint 2 3;purse 3 times 9 2 times 2;", 4, 25);
    fault("mint 2;purse 2 times 5 2 times 5;", 4, 31);
    fault("mint 2;purse 2 2 2 2 2 2 2 2 2 2;", 4, 31);
    fault("mint 2;change 2 2 2 2 into 2;", 4, 20);
    fault("mint 2;change 2 into 2 2 2 2;", 4, 27);
    String change = "change 2 into 2;";
    fault("mint 2;" + change + change + change + change + change + change + change, 4, 103);
  }

  private static void wellTold() {
    lines("mint 2;", 1);
    lines("\n mint\n2 ;\n", 1);
    lines("mint2 3;purse2times3 3;change2into3;", 3);
    lines("mint 002 03;purse 2 times 009;", 2);
    lines("mint 2 3 5 7 11 13 17 97;", 1);
    lines("mint 2;purse 2 times 1;", 2);
    lines("mint 2;purse 2 times 9;", 2);
    lines("mint 2;purse 2 times 8 2;", 2);
    lines("mint 2 3;purse 2 times 4 3 times 5;", 2);
    lines("mint 2;purse;purse;purse;purse;purse;", 6);
    String change = "change 2 2 2 into 2 2 2;";
    lines("mint 2;" + change + change + change + change + change + change, 7);
    lines("mint 2;change 2 into 2;purse 2;change 2 into 2 2;purse;", 5);
    lines("mint 2;" + " ".repeat(693), 1);
  }

  private static void deals() {
    mayAndPay();
    changing();
    taxes();
    striking();
    theTreasury();
    years();
    judging();
    performing();
  }

  private static void mayAndPay() {
    PrimeCoins x = three();
    Check.due("10 it may", x.may(0, 1, 6), 0);
    Check.due("10 1 is a price", x.may(2, 1, 1), 0);
    Check.due("10 all", x.may(0, 1, 168), 0);
    Check.due("10 no price", x.may(0, 1, 22), 1);
    Check.due("10 no price", x.may(0, 1, 0), 1);
    Check.due("10 no price", x.may(0, 1, -6), 1);
    Check.due("10 no price", x.may(0, 1, Long.MIN_VALUE), 1);
    Check.due("10 no price", x.may(0, 1, Long.MAX_VALUE), 1);
    Check.due("10 not there", x.may(0, 1, 16), 2);
    Check.due("10 not there", x.may(0, 1, 1L << 62), 2);
    Check.throwsDue("10 the person", NSE, () -> x.may(3, 1, 6));
    Check.throwsDue("10 the other", NSE, () -> x.may(0, -1, 6));
    Check.throwsDue("10 people first", NSE, () -> x.may(3, 3, 6));
    Check.throwsDue("10 both one", IAE, () -> x.may(1, 1, 6));
    Check.due("10 nothing changed", x.worth(0), 168);
    Check.due("11 coins", x.pay(0, 1, 12), 3);
    Check.due("11 hers", x.worth(0), 14);
    Check.due("11 the other one's", x.worth(1), 300);
    Check.due("11 of none", x.pay(0, 1, 1), 0);
    Check.due("11 no price", x.pay(0, 1, 13), -1);
    Check.due("11 not there", x.pay(0, 1, 3), -2);
    Check.due("11 nothing changed", x.worth(0), 14);
    Check.throwsDue("11 the person", NSE, () -> x.pay(-1, 1, 6));
    Check.throwsDue("11 the other", NSE, () -> x.pay(0, 3, 6));
    Check.throwsDue("11 both one", IAE, () -> x.pay(0, 0, 6));
    PrimeCoins y = Check.of("mint 2 3;purse 2 times 8;purse 3 times 3;");
    Check.due("10 nine fit", y.may(1, 0, 3), 0);
    Check.due("10 ten don't", y.may(1, 0, 9), 3);
    Check.due("10 the least", y.may(1, 0, 81), 2);
    Check.due("11 ten don't", y.pay(1, 0, 9), -3);
    Check.due("11 nine fit", y.pay(1, 0, 3), 1);
    Check.due("11 nine", y.purse(0, 0), 9);
    Check.due("11 none of a full one's", y.pay(1, 0, 1), 0);
    Check.due("10 the first coin counts", Check.of("mint 2;purse 2;purse 2 times 9;").may(0, 1, 2), 3);
  }

  private static void changing() {
    PrimeCoins x = Check.of("mint 2 3 5;purse 2 2 3;purse 3 times 9;purse 3 times 8;"
        + "change 2 2 into 5;change 3 into 2 5;change 2 into 2;change 3 into 2 2 2;");
    Check.due("12 a change", x.changes(0, 0), 2);
    Check.due("12 the worth", x.worth(0), 15);
    Check.due("12 not there", x.changes(0, 0), -2);
    Check.due("12 it stays", x.worth(0), 15);
    Check.due("12 more", x.changes(0, 1), 3);
    Check.due("12 the worth", x.worth(0), 50);
    Check.due("12 like for like", x.changes(0, 2), 3);
    Check.due("12 too many", x.changes(1, 1), -3);
    Check.due("12 it stays", x.purse(1, 0), 9);
    Check.due("12 the least", x.changes(1, 0), -2);
    Check.due("12 nine", x.changes(2, 1), 9);
    Check.due("12 ten and more", x.changes(1, 3), -3);
    Check.throwsDue("12 the person", NSE, () -> x.changes(3, 0));
    Check.throwsDue("12 the change", NSE, () -> x.changes(0, 4));
    Check.throwsDue("12 the change", NSE, () -> x.changes(0, -1));
  }

  private static void taxes() {
    PrimeCoins x = Check.of("mint 5 2 7;purse 2 7 5 7;purse;");
    Check.due("13 the greatest", x.tax(0), 7);
    Check.due("13 again", x.tax(0), 7);
    Check.due("13 the next", x.tax(0), 5);
    Check.due("13 what is left", x.worth(0), 2);
    Check.due("13 the last", x.tax(0), 2);
    Check.due("13 none", x.tax(0), -1);
    Check.due("13 none", x.tax(1), -1);
    Check.throwsDue("13 the person", NSE, () -> x.tax(2));
    Check.due("15 two", x.treasury(7), 2);
    Check.due("15 one", x.treasury(5), 1);
    Check.due("15 no coin", x.treasury(3), 0);
    Check.due("15 no coin", x.treasury(-1), 0);
    Check.due("15 no coin", x.treasury(0), 0);
  }

  private static void striking() {
    PrimeCoins x = Check.of("mint 2 3;purse 2 times 7;purse;");
    Check.due("14 eight", x.strike(0, 3), 8);
    Check.due("14 nine", x.strike(0, 2), 9);
    Check.throwsDue("14 full", ISE, () -> x.strike(0, 2));
    Check.throwsDue("14 the coin first", IAE, () -> x.strike(0, 5));
    Check.throwsDue("14 the person first", NSE, () -> x.strike(2, 5));
    Check.throwsDue("14 no coin", IAE, () -> x.strike(1, 0));
    Check.due("14 its worth", x.worth(0), 768);
    Check.due("14 one", x.strike(1, 3), 1);
    Check.due("14 its worth", x.worth(1), 3);
  }

  private static void theTreasury() {
    PrimeCoins x = Check.of("mint 97 89;purse 97 times 9;purse 89 times 9;");
    for (int i = 0; i < 9; i++) {
      x.tax(0);
      x.tax(1);
    }
    Check.due("16 by 1", x.readOut(1), 0);
    Check.due("16 by a coin", x.readOut(89), 0);
    java.math.BigInteger all = java.math.BigInteger.valueOf(97 * 89).pow(9);
    long[] bys = {2, 7, 100, 1000, 999999937, 1000000000};
    for (long by : bys) {
      Check.due("16 by " + by, x.readOut(by), all.mod(java.math.BigInteger.valueOf(by)));
    }
    Check.throwsDue("16 0", IAE, () -> x.readOut(0));
    Check.throwsDue("16 below", IAE, () -> x.readOut(-5));
    Check.throwsDue("16 above", IAE, () -> x.readOut(1000000001L));
    Check.throwsDue("16 far above", IAE, () -> x.readOut((1L << 32) + 7));
    manyTaxes();
  }

  /** The image gives full purses back, the treasury among what it keeps: so years fill it. */
  private static void manyTaxes() {
    PrimeCoins x = Check.of("mint 2;purse 2 times 9;");
    int calls = 0;
    long came = 9;
    for (int seed = 1; calls < 400; seed++) {
      came += x.year(seed, 60);
      Check.due("17 what came stays", (long) x.purse(0, 0), came);
      calls += 2;
    }
    Check.due("15 999 at most", x.treasury(2), 999);
    Check.due("15 999 in all", x.count(5), 999);
    if (x.purse(0, 0) > 0) {
      Check.due("13 a lost one goes, too", x.tax(0), 2);
      Check.due("15 it stays 999", x.treasury(2), 999);
      Check.due("13 it went", (long) x.purse(0, 0), came - 1);
    }
  }

  private static void years() {
    PrimeCoins x = Check.of("mint 2 3 5;purse 2 2;purse 3;");
    Check.throwsDue("17 times", IAE, () -> x.year(1, 0));
    Check.throwsDue("17 times", IAE, () -> x.year(1, 61));
    Check.throwsDue("17 times", IAE, () -> x.year(1, -1));
    PrimeCoins none = Check.of("mint 2;");
    Check.throwsDue("17 nobody", ISE, () -> none.year(1, 1));
    Check.throwsDue("17 times first", IAE, () -> none.year(1, 61));
    int[] seeds = {0, 1, 7, -1, 12345, Integer.MIN_VALUE, Integer.MAX_VALUE, 99, 2026};
    for (int seed : seeds) {
      aYear(seed, 1, 2, 1);
      aYear(seed, 9, 2, 1);
      aYear(seed, 60, 2, 1);
      aYear(seed, 3, 0, 0);
      aYear(seed, 60, 9, 9);
    }
  }

  private static void aYear(int seed, int times, int twos, int threes) {
    int[] primes = {2, 3, 5};
    int[][] purses = {{twos, 0, 0}, {0, threes, 0}};
    long drawn = seed;
    int grown = 0;
    int taxed = 0;
    for (int i = 0; i < times; i++) {
      drawn = drawn * 1103515245L + 12345 & 0xffffffffL;
      int[] purse = purses[(int) (drawn >> 16) % 2];
      drawn = drawn * 1103515245L + 12345 & 0xffffffffL;
      int sum = purse[0] + purse[1] + purse[2];
      if ((drawn >> 16) % 4 == 0) {
        int greatest = purse[2] > 0 ? 2 : purse[1] > 0 ? 1 : 0;
        if (sum > 0) {
          purse[greatest]--;
          taxed++;
          grown--;
        }
        continue;
      }
      drawn = drawn * 1103515245L + 12345 & 0xffffffffL;
      if (sum < 9) {
        purse[(int) (drawn >> 16) % 3]++;
        grown++;
      }
    }
    PrimeCoins x = Check.of("mint 2 3 5;purse" + " 2".repeat(twos) + ";purse" + " 3".repeat(threes) + ";");
    String name = "17 year " + seed + " " + times + " from " + twos + " " + threes;
    Check.due(name, x.year(seed, times), grown);
    Check.due(name + " taxes", x.count(5), taxed);
    for (int p = 0; p < 2; p++) {
      for (int c = 0; c < 3; c++) {
        Check.due(name + " has " + p + " " + c, x.has(p, primes[c]), purses[p][c]);
      }
    }
  }

  private static void judging() {
    PrimeCoins x = Check.of("mint 2 3 7;purse 2 2 3;purse 7;purse 2 times 9;purse;");
    Check.throwsDue("18 no tray", NSE, () -> x.judge(4, 3));
    Check.throwsDue("18 no tray", NSE, () -> x.judge(-1, 0));
    Check.throwsDue("18 missing first", ISE, () -> x.judge(0, 3));
    Check.row(x, 0, 2);
    Check.throwsDue("18 what", IAE, () -> x.judge(0, 3));
    Check.throwsDue("18 what", IAE, () -> x.judge(0, -1));
    Check.due("18 none can't be", x.judge(0, 0), -1);
    Check.due("18 why", x.judge(0, 1), 0);
    Check.due("18 the richest", x.judge(0, 2), 2);
    // 0 gives 1 a 2, 1 gives 0 a 7, 1 gives 3 that 2, 3 has no 7
    Check.row(x, 0, 2, 102, 1007, 1302, 3007, 102);
    Check.due("18 the place", x.judge(0, 0), 3);
    Check.due("18 why", x.judge(0, 1), 2);
    Check.due("18 it is judged alone", x.worth(0), 12);
    why(x, 1, -1, -102, Long.MIN_VALUE, 2, 1107, 4002, 402, 902, 105, 100, 104, 10102, 5000000000102L);
    why(x, 2, 107, 1002, 3102, 3202);
    why(x, 3, 202, 203, 1207);
    why(x, 0, 102, 103, 1007, 2002, 2302, 1307);
    Check.row(x, 1, 3, 102, 102, 103, 2302);
    Check.due("18 all can be", x.judge(1, 0), -1);
    Check.due("18 why not", x.judge(1, 1), 0);
    PrimeCoins y = Check.of("mint 2 3;purse 2;purse 2 3;purse 3 2;");
    Check.row(y, 0, 1, 1003);
    Check.due("18 the greatest then, the first", y.judge(0, 2), 0);
    Check.row(y, 0, 1, 1103, 1003);
    Check.due("18 none behind one that can't be", y.judge(0, 2), 1);
    PrimeCoins one = Check.of("mint 2;purse;");
    one.tray(0, 0, 0);
    Check.due("18 one alone", one.judge(0, 2), 0);
    PrimeCoins none = new PrimeCoins();
    none.tray(0, 0, 0);
    Check.due("18 nobody", none.judge(0, 2), -1);
    none.tray(0, 0, 1);
    Check.due("18 nobody", none.judge(0, 1), 1);
  }

  private static void why(PrimeCoins x, int why, long... deals) {
    for (long deal : deals) {
      Check.row(x, 3, 3, deal);
      Check.due("18 why " + deal, x.judge(3, 1), why);
      Check.due("18 where " + deal, x.judge(3, 0), why == 0 ? -1 : 0);
    }
  }

  private static void performing() {
    PrimeCoins x = Check.of("mint 2 3 7;purse 2 2 3;purse 7;purse 2 times 9;purse;");
    Check.throwsDue("19 no tray", NSE, () -> x.perform(4));
    Check.throwsDue("19 missing", ISE, () -> x.perform(1));
    Check.row(x, 1, 1, 102, 1007, 1302, 3007, 102);
    Check.due("19 made", x.perform(1), 3);
    Check.due("19 0 then", x.worth(0), 42);
    Check.due("19 1 then", x.worth(1), 1);
    Check.due("19 3 then", x.worth(3), 2);
    Check.row(x, 1, 1, 3002, 203);
    Check.due("19 till one can't be", x.perform(1), 1);
    Check.due("19 0 then", x.worth(0), 84);
    Check.row(x, 1, 1);
    Check.due("19 none", x.perform(1), 0);
    Check.row(x, 1, 1, 103, 1003);
    Check.due("19 all", x.perform(1), 2);
    Check.due("19 there and back", x.worth(0), 84);
  }

  private static void thePrices() {
    PrimeCoins x = three();
    long[] due = {1, 2, 3, 4, 6, 7, 8, 12, 14, 21, 24, 28, 42, 56, 84, 168};
    Check.due("20 prices", x.prices(0), 16);
    Check.due("20 prices", x.prices(1), 3);
    Check.due("20 of none", x.prices(2), 1);
    Check.throwsDue("20 the person", NSE, () -> x.prices(3));
    for (int k = 0; k < due.length; k++) {
      Check.due("21 price " + k, x.price(0, k), due[k]);
    }
    Check.due("21 not so many", x.price(0, 16), -1);
    Check.due("21 below", x.price(0, -1), -1);
    Check.due("21 far above", x.price(0, Integer.MAX_VALUE), -1);
    Check.due("21 of none", x.price(2, 0), 1);
    Check.throwsDue("21 the person", NSE, () -> x.price(-1, 0));
    Check.due("22 gap", x.gap(0), 84);
    Check.due("22 gap", x.gap(1), 20);
    Check.due("22 one alone", x.gap(2), 0);
    Check.throwsDue("22 the person", NSE, () -> x.gap(3));
    Check.due("22 the first gap", Check.of("mint 97;purse 97;").gap(0), 96);
    Check.due("22 a gap between", Check.of("mint 2 47;purse 2 47;").gap(0), 47);
    nearest(x);
    halves(x);
    between(x);
    dear(x);
    manyPrices();
  }

  private static void nearest(PrimeCoins x) {
    long[][] due = {{10, 8}, {11, 12}, {13, 12}, {5, 4}, {9, 8}, {18, 21}, {35, 28}, {126, 84}, {127, 168},
        {1, 1}, {2, 2}, {3, 3}, {4, 4}, {0, 1}, {-5, 1}, {Long.MIN_VALUE, 1}, {169, 168}, {Long.MAX_VALUE, 168}, {56, 56}};
    for (long[] pair : due) {
      Check.due("23 nearest to " + pair[0], x.nearest(0, pair[0]), pair[1]);
    }
    Check.due("23 of none", x.nearest(2, 50), 1);
    Check.throwsDue("23 the person", NSE, () -> x.nearest(3, 1));
  }

  private static void halves(PrimeCoins x) {
    Check.due("24 half", x.half(0), 12);
    Check.due("24 a square", x.half(1), 5);
    Check.due("24 of none", x.half(2), 1);
    Check.throwsDue("24 the person", NSE, () -> x.half(3));
    Check.due("24 of a prime", Check.of("mint 97;purse 97;").half(0), 1);
    Check.due("24 of a great one", Check.of("mint 97;purse 97 times 9;").half(0), 88529281);
  }

  private static void between(PrimeCoins x) {
    Check.due("27 both, too", x.between(0, 7, 24), 6);
    Check.due("27 all", x.between(0, Long.MIN_VALUE, Long.MAX_VALUE), 16);
    Check.due("27 one", x.between(0, 8, 8), 1);
    Check.due("27 none", x.between(0, 9, 11), 0);
    Check.due("27 the wrong way", x.between(0, 24, 7), 0);
    Check.due("27 below", x.between(0, -9, 0), 0);
    Check.throwsDue("27 the person", NSE, () -> x.between(3, 1, 2));
  }

  private static void dear(PrimeCoins x) {
    Check.due("28 by 2", x.dear(0, 2), 4);
    Check.due("28 by 3", x.dear(0, 3), 8);
    Check.due("28 by 5", x.dear(0, 5), 8);
    Check.due("28 by 7", x.dear(0, 7), 16);
    Check.due("28 by no coin", x.dear(0, 97), 16);
    Check.due("28 of 25", x.dear(1, 3), 1);
    int[] none = {4, 1, 0, -2, 91, 101};
    for (int prime : none) {
      Check.throwsDue("28 no prime " + prime, IAE, () -> x.dear(0, prime));
    }
    Check.throwsDue("28 the person first", NSE, () -> x.dear(3, 4));
    Check.due("28 coins out of order", Check.of("mint 7 2;purse 2 7 7;").dear(0, 2), 2);
  }

  private static void manyPrices() {
    PrimeCoins x = Check.of("mint 97 2 89 3 83 5 79 7;purse 97 2 89 3 83 5 79 7 2;");
    Check.due("20 the most", x.prices(0), 384);
    Check.due("21 the last", x.price(0, 383), x.worth(0));
    Check.due("21 none behind", x.price(0, 384), -1);
    long before = 0;
    for (int k = 0; k < 384; k++) {
      long price = x.price(0, k);
      Check.due("21 in order " + k, price > before && x.worth(0) % price == 0, true);
      before = price;
    }
  }

  private static void searches() {
    fewest();
    spent();
    justSpent();
    together();
    gainers();
    growing();
  }

  private static void fewest() {
    PrimeCoins x = three();
    long[][] due = {{1, 0}, {168, 0}, {7, 0}, {5, 1}, {10, 1}, {35, 1}, {25, 3}, {125, -1}, {20, 2}, {1L << 62, -1}};
    for (long[] pair : due) {
      Check.due("25 fewest " + pair[0], x.fewest(0, pair[0]), (int) pair[1]);
    }
    Check.due("25 of none", x.fewest(2, 2), -1);
    Check.due("25 nothing changed", x.worth(0), 168);
    Check.throwsDue("25 no price", IAE, () -> x.fewest(0, 11));
    Check.throwsDue("25 no price", IAE, () -> x.fewest(0, 0));
    Check.throwsDue("25 no price", IAE, () -> x.fewest(0, -7));
    Check.throwsDue("25 the person first", NSE, () -> x.fewest(3, 11));
    PrimeCoins full = Check.of("mint 2 3;purse 2 times 9;change 2 into 3 3;change 2 2 into 3;");
    Check.due("25 no room at first", full.fewest(0, 9), 2);
    Check.due("25 more of the first", Check.of("mint 2 3;purse 2;change 2 into 2 2;").fewest(0, 16), 3);
    PrimeCoins last = Check.of("mint 2 3 5 7 11 13 17 19;purse 19;change 19 into 19 19;");
    Check.due("25 more of the last", last.fewest(0, 19L * 19 * 19 * 19 * 19), 4);
    Check.due("25 a ring", Check.of("mint 2 3 5;purse 2;change 2 into 3;change 3 into 2;").fewest(0, 5), -1);
  }

  /** Five kinds, then six: C(13, 4) is below 3,000 PURSES, what comes with a growing purse above. */
  private static void spent() {
    String ring = "change 2 into 3;change 3 into 5;change 5 into 7;change 7 into 11;change 11 into 13;";
    PrimeCoins six = Check.of("mint 2 3 5 7 11 13 17;purse 2 times 9;" + ring + "change 13 into 2;");
    Check.due("25 2002 purses, all met", six.fewest(0, 17), -1);
    Check.due("25 the farthest", six.fewest(0, 13L * 13 * 13 * 13 * 13 * 13 * 13 * 13 * 13), 45);
    PrimeCoins more = Check.of("mint 2 3 5 7 11 13 17;purse 2 times 9;" + ring + "change 13 into 17;");
    Check.due("25 spent", more.fewest(0, 4913L * 4913 * 4913), -1000);
    Check.due("25 near enough", more.fewest(0, 17), 6);
    Check.throwsDue("25 no price behind", IAE, () -> more.fewest(0, 19));
    Check.due("25 nothing changed", more.worth(0), 512);
  }

  /** Found by a search: 3,000 PURSES are met behind 69 CHANGES, and the 70th does; 3,001 are met behind 45, too soon. */
  private static void justSpent() {
    PrimeCoins x = Check.of("mint 2 3 5 7 11 13;purse 2 times 5 7 13;change 2 into 3;change 3 into 5;"
        + "change 5 into 7;change 7 13 7 into 11;change 11 into 2 11;change 5 into 13;");
    Check.due("25 3,000 are not too many", x.fewest(0, 24801854), 70);
    PrimeCoins y = Check.of("mint 2 3 5 7 11 13;purse 2 times 6 11;change 2 into 3;change 3 into 5 5 7;"
        + "change 5 into 7;change 7 into 11;change 5 11 into 13;change 13 into 5;");
    Check.due("25 3,001 are", y.fewest(0, 3L * 343 * 14641 * 13), -1000);
  }

  private static void together() {
    PrimeCoins x = three();
    Check.due("26 two", x.together(7, 50, 0), 2);
    Check.due("26 which", x.together(7, 50, 1), 3);
    Check.due("26 not all", x.together(6, 50, 0), -1);
    Check.due("26 not all", x.together(6, 50, 1), -1);
    Check.due("26 one", x.together(7, 25, 1), 2);
    Check.due("26 none", x.together(7, 1, 0), 0);
    Check.due("26 none", x.together(7, 1, 1), 0);
    Check.due("26 no set", x.together(0, 2, 0), -1);
    Check.throwsDue("26 others", IAE, () -> x.together(8, 2, 0));
    Check.throwsDue("26 others", IAE, () -> x.together(-1, 2, 0));
    Check.throwsDue("26 others", IAE, () -> x.together(Integer.MIN_VALUE, 2, 0));
    Check.throwsDue("26 no price", IAE, () -> x.together(7, 11, 0));
    Check.throwsDue("26 no price", IAE, () -> x.together(7, 0, 0));
    Check.throwsDue("26 what", IAE, () -> x.together(7, 2, 2));
    Check.throwsDue("26 what", IAE, () -> x.together(7, 2, -1));
    PrimeCoins y = Check.of("mint 2 3;purse 2;purse 2;purse 2;purse 3;purse 2 2;");
    Check.due("26 of all three twos", y.together(31, 8, 0), 2);
    Check.due("26 the least as bits", y.together(31, 8, 1), 17);
    Check.due("26 the set alone", y.together(15, 8, 0), 3);
    Check.due("26 the set alone", y.together(14, 6, 1), 10);
    Check.due("26 fewer ahead of lesser", y.together(31, 4, 1), 16);
    Check.due("26 all", y.together(31, 96, 1), 31);
    Check.due("26 more than all", y.together(31, 192, 0), -1);
  }

  private static void gainers() {
    Check.due("29 none", Check.of("mint 2;").gainer(), -1);
    Check.due("29 one alone", Check.of("mint 2 3;change 3 into 2;").gainer(), 0);
    Check.due("29 5 by 4 ahead of 6 by 7", three().gainer(), 0);
    String text = "mint 2 3 5;change 5 into 2 2;change 2 into 3;change 2 2 into 3 3;change 3 into 5;";
    Check.due("29 9 by 4", Check.of(text).gainer(), 2);
    Check.due("29 the first of like ones", Check.of("mint 2 3;change 2 into 3;change 2 2 into 2 3;").gainer(), 0);
    Check.due("29 the least loss", Check.of("mint 2 3 5;change 5 into 2;change 5 into 3;").gainer(), 1);
    Check.due("29 as a part", Check.of("mint 2 3 97;change 97 into 97 2;change 2 into 3 3;").gainer(), 1);
  }

  private static void growing() {
    PrimeCoins x = three();
    Check.due("30 none", x.grows(0, 0), 168);
    Check.due("30 one", x.grows(0, 1), 210);
    Check.due("30 two", x.grows(0, 2), 210);
    Check.due("30 of none", x.grows(2, 3), 1);
    Check.throwsDue("30 n", IAE, () -> x.grows(0, 7));
    Check.throwsDue("30 n", IAE, () -> x.grows(0, -1));
    Check.throwsDue("30 the person first", NSE, () -> x.grows(3, 7));
    Check.due("30 nothing changed", x.worth(0), 168);
    PrimeCoins y = Check.of("mint 2 3 97;purse 97;change 97 into 2;change 2 into 3 3 3;change 3 into 97;");
    long[] due = {97, 97, 97, 873, 97L * 97 * 3, 97L * 97 * 97, 97L * 97 * 97};
    for (int n = 0; n < due.length; n++) {
      Check.due("30 through a loss " + n, y.grows(0, n), due[n]);
    }
    PrimeCoins full = Check.of("mint 2 3;purse 2 times 9;change 2 into 2 3;");
    Check.due("30 no room", full.grows(0, 6), 512);
  }

  private static void twoPurses() {
    PrimeCoins x = three();
    Check.due("31 goes", x.swap(0, 1, 0), 7);
    Check.due("31 comes", x.swap(0, 1, 1), 5);
    Check.due("31 differ", x.swap(0, 1, 2), 85);
    Check.due("31 the other way", x.swap(1, 0, 0), 5);
    Check.due("31 the other way", x.swap(1, 0, 1), 7);
    Check.due("31 none", x.swap(0, 2, 0), -1);
    Check.due("31 none", x.swap(0, 2, 1), -1);
    Check.due("31 none", x.swap(0, 2, 2), -1);
    Check.throwsDue("31 both one", IAE, () -> x.swap(0, 0, 0));
    Check.throwsDue("31 what", IAE, () -> x.swap(0, 1, 3));
    Check.throwsDue("31 what", IAE, () -> x.swap(0, 1, -1));
    Check.throwsDue("31 the person", NSE, () -> x.swap(3, 0, 0));
    Check.throwsDue("31 the other", NSE, () -> x.swap(0, 3, 0));
    Check.throwsDue("31 people first", NSE, () -> x.swap(3, 3, 9));
    Check.due("31 nothing changed", x.worth(0), 168);
    // 6 and 10: 2 for 5 gives 15 and 4, 3 for 2 gives 4 and 15, 3 for 5 gives 10 and 6.
    PrimeCoins y = Check.of("mint 5 3 2;purse 2 3;purse 2 5;purse 3 3;purse 3;purse 2;");
    Check.due("31 least", y.swap(0, 1, 2), 4);
    Check.due("31 goes", y.swap(0, 1, 0), 3);
    Check.due("31 comes", y.swap(0, 1, 1), 5);
    Check.due("31 unlike ones alone", y.swap(2, 3, 0), -1);
    Check.due("31 one each", y.swap(3, 4, 2), 1);
    // 6 and 35: 2 for 5 and 3 for 7 both leave 15, 14 or 14, 15.
    PrimeCoins z = Check.of("mint 3 2 7 5;purse 2 3;purse 5 7;");
    Check.due("31 the first of like ones", z.swap(0, 1, 0), 3);
    Check.due("31 the first of like ones", z.swap(0, 1, 1), 7);
    Check.due("31 by 1", z.swap(0, 1, 2), 1);
    commons(x);
    friends();
  }

  private static void commons(PrimeCoins x) {
    Check.due("32 nothing", x.common(0, 1), 1);
    Check.due("32 of one", x.common(0, 0), 168);
    Check.due("32 of 1", x.common(0, 2), 1);
    Check.throwsDue("32 the person", NSE, () -> x.common(3, 0));
    Check.throwsDue("32 the other", NSE, () -> x.common(0, 3));
    Check.due("33 all", x.least(0, 1), 7);
    Check.due("33 of one", x.least(0, 0), 5);
    Check.due("33 of none", x.least(2, 2), 0);
    Check.throwsDue("33 the person", NSE, () -> x.least(-1, 0));
    Check.throwsDue("33 the other", NSE, () -> x.least(0, -1));
    PrimeCoins y = Check.of("mint 2 3 5;purse 2 2 3;purse 2 3 3 5;");
    Check.due("32 a factor", y.common(0, 1), 6);
    Check.due("32 the other way", y.common(1, 0), 6);
    Check.due("33 the most of each", y.least(0, 1), 5);
  }

  private static void friends() {
    Check.due("34 nobody", Check.of("mint 2;").friends(), 0);
    Check.due("34 all", three().friends(), 7);
    Check.due("34 the least as bits", Check.of("mint 2;purse 2;purse 2;").friends(), 1);
    Check.due("34 the greatest", Check.of("mint 2 3 5;purse 2 3 5;purse 2;purse 3;purse 5;").friends(), 14);
    Check.due("34 of like ones", Check.of("mint 2 3 5;purse 2 3;purse 2 5;purse 3;purse 5;").friends(), 6);
    Check.due("34 none has nothing in common", Check.of("mint 2;purse 2;purse;purse 2 2;").friends(), 3);
    Check.due("34 five", Check.of("mint 2 3;purse 2;purse 3;purse;purse;purse;").friends(), 31);
  }

  private static void missing() {
    PrimeCoins x = three();
    // 84, 56 and 24 are left.
    Check.due("35 two", x.stolen(0, 10, 4), 9);
    Check.due("35 one", x.stolen(0, 10, 6), 2);
    Check.due("35 none", x.stolen(0, 10, 5), 0);
    Check.due("35 no 5 is there, though 168 by 5 is 33", x.stolen(0, 10, 3), 0);
    Check.due("35 all", x.stolen(0, 2, 0), 11);
    Check.due("35 by much", x.stolen(0, 1000000000, 84), 1);
    Check.due("35 of none", x.stolen(2, 2, 1), 0);
    long[][] wrong = {{1, 0}, {0, 0}, {-3, 0}, {1000000001, 0}, {10, 10}, {10, -1}, {(1L << 32) + 10, 4}};
    for (long[] pair : wrong) {
      Check.throwsDue("35 " + pair[0] + " " + pair[1], IAE, () -> x.stolen(0, pair[0], pair[1]));
    }
    Check.throwsDue("35 the person first", NSE, () -> x.stolen(3, 1, 0));
    fitting(x);
    wrongFits(x);
  }

  private static void fitting(PrimeCoins x) {
    Check.row(x, 0, 1, 10, 4);
    Check.due("36 of one", x.fitting(0, 1, -1), 0);
    Check.due("36 of two", x.fitting(0, 2, -1), 2);
    Check.due("36 the first", x.fitting(0, 2, 0), 4);
    Check.due("36 the next", x.fitting(0, 2, 1), 14);
    Check.due("36 not so many", x.fitting(0, 2, 2), -1);
    Check.due("36 below", x.fitting(0, 2, -2), -1);
    Check.row(x, 0, 1, 10, 4, 3, 2);
    Check.due("36 all remainders", x.fitting(0, 2, -1), 1);
    Check.due("36 all remainders", x.fitting(0, 2, 0), 14);
    Check.row(x, 0, 1);
    int[] bags = {4, 10, 20, 35};
    for (int n = 1; n <= 4; n++) {
      Check.due("36 any " + n, x.fitting(0, n, -1), bags[n - 1]);
    }
    long[] rows = {4, 6, 10, 14, 9, 15, 21, 25, 35, 49};
    for (int k = 0; k < rows.length; k++) {
      Check.due("36 in order " + k, x.fitting(0, 2, k), rows[k]);
    }
    Check.due("36 the last", x.fitting(0, 4, 34), 2401);
    PrimeCoins eight = Check.of("mint 97 2 3 5 7 11 13 17;");
    Check.row(eight, 0, 0);
    Check.due("36 by coins' numbers", eight.fitting(0, 4, 0), 88529281);
    Check.due("36 the most", eight.fitting(0, 4, -1), 330);
    Check.due("36 the last of all", eight.fitting(0, 4, 329), 83521);
    PrimeCoins one = Check.of("mint 7;");
    Check.row(one, 0, 0);
    Check.due("36 one kind", one.fitting(0, 3, -1), 1);
    Check.due("36 one kind", one.fitting(0, 3, 0), 343);
    PrimeCoins none = new PrimeCoins();
    Check.row(none, 2, 0);
    Check.due("36 no coins", none.fitting(2, 1, -1), 0);
    Check.due("36 no coins", none.fitting(2, 1, 0), -1);
  }

  private static void wrongFits(PrimeCoins x) {
    Check.throwsDue("36 no tray", NSE, () -> x.fitting(4, 9, 0));
    Check.throwsDue("36 no tray", NSE, () -> x.fitting(-1, 1, 0));
    Check.throwsDue("36 missing", ISE, () -> x.fitting(1, 9, 0));
    Check.row(x, 0, 1, 10, 4);
    Check.throwsDue("36 n", IAE, () -> x.fitting(0, 0, 0));
    Check.throwsDue("36 n", IAE, () -> x.fitting(0, 5, 0));
    long[][] wrong = {{10}, {10, 4, 3}, {1, 0}, {0, 0}, {1001, 5}, {-5, 0}, {10, 10}, {10, -1}, {10, 4, 3, 3}};
    for (long[] row : wrong) {
      Check.row(x, 0, 2, row);
      Check.throwsDue("36 no such numbers", IAE, () -> x.fitting(0, 1, 0));
    }
    Check.row(x, 0, 2, 1000, 999, 2, 1);
    Check.due("36 the bounds", x.fitting(0, 4, -1), 0);
  }

  private static void numbers() {
    trials();
    squares();
    rounds();
    factors();
    smooth();
    witnesses();
    orders();
  }

  private static void trials() {
    PrimeCoins x = new PrimeCoins();
    int[][] due = {{1, 1, 0}, {2, 2, 1}, {3, 3, 2}, {4, 2, 1}, {15, 3, 2}, {25, 5, 4}, {7, 7, 6}, {49, 7, 6},
        {1000000000, 2, 1}, {999999937, 999999937, 999999936}, {999950884, 2, 1}, {31607 * 31607, 31607, 31606}};
    for (int[] row : due) {
      Check.due("37 factor of " + row[0], x.trial(row[0], 0), row[1]);
      Check.due("37 steps of " + row[0], x.trial(row[0], 1), row[2]);
    }
    Check.throwsDue("37 0", IAE, () -> x.trial(0, 0));
    Check.throwsDue("37 below", IAE, () -> x.trial(-7, 0));
    Check.throwsDue("37 above", IAE, () -> x.trial(1000000001, 0));
    Check.throwsDue("37 what", IAE, () -> x.trial(7, 2));
    Check.throwsDue("37 what", IAE, () -> x.trial(7, -1));
  }

  private static void squares() {
    PrimeCoins x = new PrimeCoins();
    int[][] due = {{3, 1, 1}, {15, 3, 1}, {21, 3, 1}, {7, 1, 2}, {9, 3, 1}, {45, 5, 1}, {999999, 999, 1}};
    for (int[] row : due) {
      Check.due("38 factor of " + row[0], x.squares(row[0], 0), row[1]);
      Check.due("38 steps of " + row[0], x.squares(row[0], 1), row[2]);
    }
    int[] tried = {5, 11, 13, 27, 33, 63, 105, 121, 997, 1001, 99999, 500001, 994009, 998001, 999983, 999997};
    for (int n : tried) {
      long[] told = bySquares(n);
      Check.due("38 factor of " + n, (long) x.squares(n, 0), told[0]);
      Check.due("38 steps of " + n, (long) x.squares(n, 1), told[1]);
    }
    int[] wrong = {8, 1, 0, -3, 2, 1000000, 1000001};
    for (int n : wrong) {
      Check.throwsDue("38 " + n, IAE, () -> x.squares(n, 0));
    }
    Check.throwsDue("38 what", IAE, () -> x.squares(9, 2));
    Check.throwsDue("38 what", IAE, () -> x.squares(9, -1));
  }

  /** As the words go: a, one more each step, till what is left is a square. */
  private static long[] bySquares(long n) {
    long a = 1;
    while (a * a < n) {
      a++;
    }
    for (long steps = 1; ; steps++) {
      long b = Math.round(Math.sqrt(a * a - n));
      if (b * b == a * a - n) {
        return new long[] {a - b, steps};
      }
      a++;
    }
  }

  private static void rounds() {
    PrimeCoins x = new PrimeCoins();
    // 8051 with 1: x 5, 26, 677; y 26, 7474, 871: 677 and 871 differ by 194 = 2 * 97.
    int[][] due = {{15, 1, 3, 1}, {7, 1, 7, 1}, {2, 0, 2, 1}, {8051, 1, 97, 3}, {4, 0, 4, 1}, {9, 0, 3, 1}};
    for (int[] row : due) {
      Check.due("39 factor of " + row[0], x.rounds(row[0], row[1], 0), row[2]);
      Check.due("39 steps of " + row[0], x.rounds(row[0], row[1], 1), row[3]);
    }
    int[] tried = {3, 10, 91, 1001, 10403, 999999, 999950884, 999999937, 1000000000, 999936001};
    for (int n : tried) {
      for (int c = 0; c < 100; c += 33) {
        long[] told = byRounds(n, c);
        Check.due("39 factor of " + n + " " + c, (long) x.rounds(n, c, 0), told[0]);
        Check.due("39 steps of " + n + " " + c, (long) x.rounds(n, c, 1), told[1]);
      }
    }
    notWithin(x);
    Check.throwsDue("39 1", IAE, () -> x.rounds(1, 0, 0));
    Check.throwsDue("39 above", IAE, () -> x.rounds(1000000001, 0, 0));
    Check.throwsDue("39 c", IAE, () -> x.rounds(15, -1, 0));
    Check.throwsDue("39 c", IAE, () -> x.rounds(15, 100, 0));
    Check.throwsDue("39 what", IAE, () -> x.rounds(15, 1, 2));
    Check.throwsDue("39 what", IAE, () -> x.rounds(15, 1, -1));
  }

  /** Primes found by a search: x and y meet first at these STEPS. */
  private static void notWithin(PrimeCoins x) {
    Check.due("39 the last step", x.rounds(999950383, 4, 1), 2000);
    Check.due("39 the last step's factor", x.rounds(999950383, 4, 0), 999950383);
    Check.due("39 one step more", x.rounds(999949199, 39, 1), -1);
    Check.due("39 one step more, the factor", x.rounds(999949199, 39, 0), -1);
  }

  private static long[] byRounds(long n, long c) {
    long x = 2;
    long y = 2;
    for (int step = 1; step <= 2000; step++) {
      x = (x * x + c) % n;
      y = (y * y + c) % n;
      y = (y * y + c) % n;
      long found = java.math.BigInteger.valueOf(x - y).gcd(java.math.BigInteger.valueOf(n)).longValue();
      if (found > 1) {
        return new long[] {found, step};
      }
    }
    return new long[] {-1, -1};
  }

  private static void factors() {
    PrimeCoins x = new PrimeCoins();
    int[][] due = {{360, 2, 2, 2, 3, 3, 5}, {1}, {2, 2}, {97, 97}, {1000000000, 2, 2, 2, 2, 2, 2, 2, 2, 2, 5, 5, 5, 5,
        5, 5, 5, 5, 5}, {999999937, 999999937}, {31607 * 31607, 31607, 31607}, {536870912, 2, 2, 2, 2, 2, 2, 2, 2, 2, 2,
        2, 2, 2, 2, 2, 2, 2, 2, 2, 2, 2, 2, 2, 2, 2, 2, 2, 2, 2}, {999998, 2, 31, 127, 127}};
    for (int[] row : due) {
      Check.due("40 how many of " + row[0], x.factor(row[0], -1), row.length - 1);
      for (int k = 0; k < row.length - 1; k++) {
        Check.due("40 factor " + k + " of " + row[0], x.factor(row[0], k), row[k + 1]);
      }
      Check.due("40 not so many of " + row[0], x.factor(row[0], row.length - 1), -1);
      Check.due("40 below " + row[0], x.factor(row[0], -2), -1);
    }
    Check.throwsDue("40 0", IAE, () -> x.factor(0, 0));
    Check.throwsDue("40 below", IAE, () -> x.factor(-6, 0));
    Check.throwsDue("40 above", IAE, () -> x.factor(1000000001, 0));
  }

  private static void smooth() {
    PrimeCoins x = new PrimeCoins();
    int[][] due = {{10, 3, 7}, {10, 2, 4}, {1, 2, 1}, {100, 5, 34}, {96, 89, 96}, {97, 89, 96}, {97, 97, 97},
        {5000, 2, 13}, {4096, 2, 13}, {4095, 2, 12}};
    for (int[] row : due) {
      Check.due("41 to " + row[0] + " by " + row[1], x.smooth(row[0], row[1]), row[2]);
    }
    Check.throwsDue("41 n", IAE, () -> x.smooth(0, 2));
    Check.throwsDue("41 n", IAE, () -> x.smooth(5001, 2));
    int[] none = {4, 1, 0, -2, 91, 101};
    for (int prime : none) {
      Check.throwsDue("41 no prime " + prime, IAE, () -> x.smooth(5, prime));
    }
    int[][] primes = {{1, 0}, {2, 1}, {3, 2}, {4, 2}, {10, 4}, {100, 25}, {1000, 168}, {5000, 669}};
    for (int[] row : primes) {
      Check.due("42 to " + row[0], x.primesTo(row[0]), row[1]);
    }
    Check.throwsDue("42 n", IAE, () -> x.primesTo(0));
    Check.throwsDue("42 n", IAE, () -> x.primesTo(5001));
    Check.throwsDue("42 n", IAE, () -> x.primesTo(-1));
  }

  private static void witnesses() {
    PrimeCoins x = new PrimeCoins();
    // 341 and 561 are pseudoprimes to 2; 1729, with no factor below 7, is one to 2 to 6.
    int[][] due = {{2, -1}, {3, -1}, {4, 2}, {7, -1}, {9, 2}, {341, 3}, {561, 3}, {1105, 5}, {1729, 7}, {2821, 7},
        {91, 2}, {999999937, -1}, {1000000000, 2}, {252601, 41}, {294409, 37}, {999999, 2}};
    for (int[] row : due) {
      Check.due("43 witness of " + row[0], x.witness(row[0]), row[1]);
    }
    // Carmichael's numbers: the least witness is the least factor, 59 there; 61 and more is too far.
    Check.due("43 the farthest", x.witness(178837201), 59);
    Check.due("43 61 is too far", x.witness(6189121), -1);
    Check.due("43 none from 2 to 60", x.witness(118901521), -1);
    Check.throwsDue("43 1", IAE, () -> x.witness(1));
    Check.throwsDue("43 below", IAE, () -> x.witness(-9));
    Check.throwsDue("43 above", IAE, () -> x.witness(1000000001));
  }

  private static void orders() {
    PrimeCoins x = new PrimeCoins();
    int[][] due = {{2, 7, 3}, {3, 7, 6}, {2, 4, -1}, {1, 5, 1}, {1, 2, 1}, {6, 7, 2}, {10, 9999, 4}, {2, 10000, -1},
        {3, 10000, 500}, {9998, 9999, 2}, {5, 9973, -9}, {9999, 10000, 2}};
    for (int[] row : due) {
      int want = row[2];
      if (want == -9) {
        want = 1;
        for (int power = row[0]; power != 1; power = power * row[0] % row[1]) {
          want++;
        }
      }
      Check.due("44 order of " + row[0] + " " + row[1], x.order(row[0], row[1]), want);
    }
    int[][] wrong = {{7, 7}, {0, 7}, {-1, 7}, {1, 1}, {1, 0}, {2, 10001}, {8, 7}};
    for (int[] row : wrong) {
      Check.throwsDue("44 " + row[0] + " " + row[1], IAE, () -> x.order(row[0], row[1]));
    }
  }

  private static void theDebts() {
    PrimeCoins x = three();
    Check.due("45 a debt", x.owe(0, 1, 12), 12);
    Check.due("45 multiplied", x.owe(0, 1, 5), 60);
    Check.due("45 by 1", x.owe(0, 1, 1), 60);
    Check.throwsDue("45 both one", IAE, () -> x.owe(0, 0, 2));
    Check.throwsDue("45 0", IAE, () -> x.owe(0, 1, 0));
    Check.throwsDue("45 below", IAE, () -> x.owe(0, 1, -2));
    Check.throwsDue("45 above", IAE, () -> x.owe(0, 1, 1000001));
    Check.throwsDue("45 far above", IAE, () -> x.owe(0, 1, Long.MAX_VALUE));
    Check.throwsDue("45 the person first", NSE, () -> x.owe(3, 3, 0));
    Check.throwsDue("45 the other", NSE, () -> x.owe(0, -1, 2));
    Check.due("45 much", x.owe(2, 1, 1000000), 1000000);
    Check.due("45 the most", x.owe(2, 1, 1000), 1000000000);
    Check.throwsDue("45 more", ISE, () -> x.owe(2, 1, 2));
    Check.due("45 it stays", x.owe(2, 1, 1), 1000000000);
    Check.due("46 owed", x.owed(0, 1), 60);
    Check.due("46 the other way", x.owed(1, 0), 1);
    Check.due("46 to oneself", x.owed(1, 1), 1);
    Check.throwsDue("46 the person", NSE, () -> x.owed(3, 0));
    Check.throwsDue("46 the other", NSE, () -> x.owed(0, 3));
    twoStruck();
    threeStruck();
    ringsInOrder();
  }

  private static void twoStruck() {
    PrimeCoins x = three();
    Check.due("47 none", x.struck(), 0);
    x.owe(0, 1, 24);
    Check.due("47 one alone", x.struck(), 0);
    x.owe(1, 0, 18);
    Check.due("47 two", x.struck(), 1);
    Check.due("47 then", x.owed(0, 1), 4);
    Check.due("47 then", x.owed(1, 0), 3);
    Check.due("47 no more", x.struck(), 0);
    x.owe(1, 2, 6);
    x.owe(2, 0, 10);
    Check.due("47 three", x.struck(), 1);
    Check.due("47 then", x.owed(0, 1), 2);
    Check.due("47 then", x.owed(1, 2), 3);
    Check.due("47 then", x.owed(2, 0), 5);
    Check.due("47 out of the ring", x.owed(1, 0), 3);
  }

  private static void threeStruck() {
    PrimeCoins x = three();
    x.owe(0, 2, 30);
    x.owe(2, 1, 42);
    x.owe(1, 0, 66);
    Check.due("47 the other way round", x.struck(), 1);
    Check.due("47 then", x.owed(0, 2), 5);
    Check.due("47 then", x.owed(2, 1), 7);
    Check.due("47 then", x.owed(1, 0), 11);
    PrimeCoins y = three();
    y.owe(0, 1, 8);
    y.owe(1, 2, 4);
    y.owe(2, 1, 3);
    y.owe(1, 0, 9);
    y.owe(0, 2, 7);
    Check.due("47 no ring", y.struck(), 0);
    y.owe(2, 0, 14);
    Check.due("47 two ahead of three, then three", y.struck(), 2);
    Check.due("47 then", y.owed(2, 0), 1);
    Check.due("47 then", y.owed(0, 2), 1);
    Check.due("47 then", y.owed(0, 1), 4);
    Check.due("47 then", y.owed(1, 2), 2);
  }

  /** What one ring takes another one lacks: so the order shows. */
  private static void ringsInOrder() {
    String five = "mint 2;purse;purse;purse;purse;purse;";
    PrimeCoins x = Check.of(five);
    x.owe(0, 1, 2);
    x.owe(1, 0, 2);
    x.owe(1, 2, 2);
    x.owe(2, 0, 2);
    Check.due("47 two ahead of three", x.struck(), 1);
    Check.due("47 three stay", x.owed(1, 2) * x.owed(2, 0), 4);
    PrimeCoins y = Check.of(five);
    y.owe(0, 1, 2);
    y.owe(1, 2, 2);
    y.owe(2, 0, 2);
    y.owe(1, 3, 2);
    y.owe(3, 0, 2);
    Check.due("47 0 1 2 ahead of 0 1 3", y.struck(), 1);
    Check.due("47 it stays", y.owed(1, 3) * y.owed(3, 0), 4);
    PrimeCoins z = Check.of(five);
    z.owe(0, 2, 2);
    z.owe(2, 1, 2);
    z.owe(1, 0, 2);
    z.owe(0, 3, 2);
    z.owe(3, 1, 2);
    Check.due("47 0 2 1 ahead of 0 3 1", z.struck(), 1);
    Check.due("47 it stays", z.owed(0, 3) * z.owed(3, 1), 4);
    PrimeCoins last = Check.of(five);
    last.owe(2, 3, 15);
    last.owe(3, 4, 21);
    last.owe(4, 2, 33);
    last.owe(3, 2, 10);
    last.owe(4, 3, 14);
    Check.due("47 the last", last.struck(), 3);
    Check.due("47 2 owes 3", last.owed(2, 3), 1);
    Check.due("47 3 owes 4", last.owed(3, 4), 1);
    Check.due("47 4 owes 2", last.owed(4, 2), 11);
    Check.due("47 3 owes 2", last.owed(3, 2), 2);
    Check.due("47 4 owes 3", last.owed(4, 3), 2);
  }

  private static void traysAndImages() {
    trays();
    writing();
    pouring();
    images();
    counts();
  }

  private static void layTray(PrimeCoins x, String name, Class<? extends Exception> want, int... abc) {
    Check.throwsDue(name, want, () -> { x.tray(abc[0], abc[1], abc[2]); return 0; });
  }

  private static void trays() {
    PrimeCoins x = three();
    layTray(x, "48 no tray", NSE, 4, 0, 0);
    layTray(x, "48 no tray first", NSE, -1, 4, 31);
    layTray(x, "48 sort", IAE, 0, 4, 0);
    layTray(x, "48 sort", IAE, 0, -1, 0);
    layTray(x, "48 many", IAE, 0, 0, 31);
    layTray(x, "48 many", IAE, 0, 0, -1);
    Check.throwsDue("48 still missing", ISE, () -> x.write(0, 0, 0));
    x.tray(3, 3, 30);
    Check.due("48 the last place", x.write(3, 29, 5), 5);
    Check.throwsDue("48 none behind", IOOBE, () -> x.write(3, 30, 5));
    x.tray(3, 3, 0);
    Check.due("48 none", x.perform(3), 0);
    Check.throwsDue("48 no place", IOOBE, () -> x.write(3, 0, 5));
    Check.row(x, 0, 2, 102, 102);
    Check.due("48 two deals", x.judge(0, 0), -1);
    x.tray(0, 2, 2);
    Check.due("48 0s again", x.judge(0, 0), 0);
    Check.row(x, 0, 2, 10, 4, 3);
    x.tray(0, 2, 2);
    x.write(0, 0, 2);
    Check.due("48 a 0 behind", x.fitting(0, 1, -1), 1);
    Check.due("48 others stay", x.perform(3), 0);
  }

  private static void writing() {
    PrimeCoins x = three();
    Check.throwsDue("49 no tray", NSE, () -> x.write(4, 99, 0));
    Check.throwsDue("49 missing", ISE, () -> x.write(0, 99, 0));
    x.tray(0, 0, 1);
    x.tray(1, 1, 1);
    x.tray(2, 2, 1);
    x.tray(3, 3, 1);
    Check.throwsDue("49 no place", IOOBE, () -> x.write(0, 1, 0));
    Check.throwsDue("49 no place", IOOBE, () -> x.write(0, -1, 0));
    long[] numbers = {0, 1, -1, 127, 128, 255, 256, -129, 32767, 32768, 65535, 65536, -32769, 2147483647L, 2147483648L,
        4294967295L, 4294967296L, -2147483649L, Long.MAX_VALUE, Long.MIN_VALUE};
    for (long v : numbers) {
      Check.due("49 8 bits of " + v, x.write(0, 0, v), (byte) v);
      Check.due("49 16 bits of " + v, x.write(1, 0, v), (short) v);
      Check.due("49 32 bits of " + v, x.write(2, 0, v), (int) v);
      Check.due("49 64 bits of " + v, x.write(3, 0, v), v);
    }
    // 102 and 2 to the 16th: cut to 16 bits it is a deal.
    x.write(1, 0, 65536 + 102);
    Check.due("49 as it is there", x.judge(1, 0), -1);
    x.write(2, 0, 65536 + 102);
    Check.due("49 as it is there", x.judge(2, 1), 1);
  }

  private static void pouring() {
    PrimeCoins x = Check.of("mint 2 3 5;purse 2 5 5 5;purse 2;purse 2 times 9 ;purse 5;");
    Check.throwsDue("50 no tray", NSE, () -> x.pour(4));
    Check.throwsDue("50 no tray", NSE, () -> x.pour(-1));
    Check.throwsDue("50 missing", ISE, () -> x.pour(0));
    x.tray(0, 3, 4);
    Check.due("50 all", x.pour(0), 4);
    // 250 2 512 5: remainders by twos
    x.write(0, 1, 30);
    Check.due("50 they are there", x.fitting(0, 2, -1), 0);
    x.write(0, 1, 6);
    x.write(0, 2, 2);
    x.write(0, 3, 0);
    Check.due("50 250 is there", x.fitting(0, 2, 0), 6);
    Check.row(x, 1, 3, 9, 9, 9);
    Check.due("50 as many as places", x.pour(1), 3);
    Check.row(x, 1, 3, 9, 9, 9, 9, 3, 0);
    Check.due("50 as many as people", x.pour(1), 4);
    x.write(1, 1, 9);
    x.write(1, 3, 9);
    Check.due("50 what is behind stays", x.fitting(1, 2, -1), 1);
    x.tray(2, 0, 1);
    x.pour(2);
    Check.throwsDue("50 cut to -6, and one alone", IAE, () -> x.fitting(2, 1, -1));
    cutPour();
    x.tray(3, 0, 0);
    Check.due("50 no places", x.pour(3), 0);
    PrimeCoins none = new PrimeCoins();
    none.tray(0, 0, 5);
    Check.due("50 nobody", none.pour(0), 0);
  }

  /** 2 to the 8th and 5, 256 and 5, cut to 8 bits: 0 and 5; in 16 bits 256 and 5. */
  private static void cutPour() {
    PrimeCoins x = Check.of("mint 2 5;purse 2 times 8;purse 5;");
    x.tray(0, 0, 2);
    x.pour(0);
    Check.throwsDue("50 cut", IAE, () -> x.fitting(0, 1, -1));
    x.tray(0, 1, 2);
    x.pour(0);
    Check.due("50 not cut", x.fitting(0, 1, -1), 1);
  }

  private static void images() {
    PrimeCoins x = three();
    Check.throwsDue("51 none such", NSE, () -> { x.image(3); return 0; });
    Check.throwsDue("51 none such", NSE, () -> { x.image(-1); return 0; });
    Check.throwsDue("52 none such", NSE, () -> { x.restore(3); return 0; });
    Check.throwsDue("52 none such", NSE, () -> { x.restore(-1); return 0; });
    Check.throwsDue("52 none made", ISE, () -> { x.restore(2); return 0; });
    x.owe(0, 1, 6);
    x.tax(1);
    x.image(2);
    Check.throwsDue("52 another", ISE, () -> { x.restore(1); return 0; });
    x.tax(0);
    x.owe(0, 1, 6);
    x.image(0);
    Check.row(x, 1, 1, 102);
    Check.due("51 another town", Check.town(x, "mint 11;purse 11;"), 2);
    Check.town(x, "mint 4;");
    Check.feed(x, "mint 2;");
    x.restore(2);
    Check.due("52 lines", x.count(0), 6);
    Check.due("52 coins", x.count(1), 4);
    Check.due("52 coin", x.coin(3), 7);
    Check.due("52 people", x.count(2), 3);
    Check.due("52 changes", x.count(3), 2);
    Check.due("52 a change", x.change(1, 1), 6);
    Check.due("52 worth", x.worth(0), 168);
    Check.due("52 worth", x.worth(1), 5);
    Check.due("52 debts", x.owed(0, 1), 6);
    Check.due("52 the treasury", x.count(5), 1);
    Check.due("52 the tape stays", x.count(7), 20);
    Check.due("52 the fault stays", x.fault(0), 3);
    Check.due("52 its place stays", x.fault(1), 5);
    Check.due("52 trays stay", x.judge(1, 0), -1);
    x.changes(0, 0);
    x.restore(0);
    Check.due("52 another image", x.worth(0), 24);
    Check.due("52 another image", x.owed(0, 1), 36);
    Check.due("52 another image", x.count(5), 2);
    x.restore(2);
    Check.due("52 it isn't spoilt", x.worth(0), 168);
    x.tax(0);
    x.image(2);
    x.tax(0);
    x.restore(2);
    Check.due("51 made anew", x.worth(0), 24);
  }

  private static void counts() {
    PrimeCoins x = three();
    int[] due = {6, 4, 3, 2, 7, 0, 0, 0};
    for (int what = 0; what < due.length; what++) {
      Check.due("53 count " + what, x.count(what), due[what]);
    }
    x.tax(0);
    x.tax(1);
    x.tax(1);
    x.owe(0, 1, 7);
    x.owe(2, 1, 2);
    x.owe(1, 2, 1);
    Check.feed(x, "mint 2 3;purse 2;purse 3;");
    int[] then = {6, 4, 3, 2, 4, 3, 2, 40};
    for (int what = 0; what < then.length; what++) {
      Check.due("53 count then " + what, x.count(what), then[what]);
    }
    Check.due("53 others", x.count(8), -1);
    Check.due("53 others", x.count(-1), -1);
  }
}
