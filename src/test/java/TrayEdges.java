/** Edges of promises 45 to 53: debts, trays, images, counts. */
final class TrayEdges extends Edge {
  private TrayEdges() {
  }

  private static PrimeCoins five() {
    return of("mint 2;purse;purse;purse;purse;purse;");
  }

  // ---- 45, 46

  static void promise45_theNumber() {
    long[] wrong = {0, -1, 1000001, (1L << 32) + 2, Long.MIN_VALUE, Long.MAX_VALUE};
    for (long n : wrong) {
      refused(IAE, x -> x.owe(0, 1, n));
    }
    stays(6L, x -> x.owe(0, 1, 1));
    due("the most", five().owe(0, 1, 1000000), 1000000);
  }

  static void promise45_upTo1000000000() {
    PrimeCoins x = five();
    due("a million", x.owe(4, 0, 1000000), 1000000);
    due("a thousand million", x.owe(4, 0, 1000), 1000000000);
    due("by 1", x.owe(4, 0, 1), 1000000000);
    Check.throwsDue("by 2", ISE, () -> x.owe(4, 0, 2));
    Check.throwsDue("by a million", ISE, () -> x.owe(4, 0, 1000000));
    due("it stays", x.owed(4, 0), 1000000000);
  }

  static void promise45_oneAbove1000000000() {
    Maker maker = () -> {
      PrimeCoins x = rich();
      x.owe(1, 2, 500000);
      return x;
    };
    refused(ISE, maker, x -> x.owe(1, 2, 2001));
    due("just as much", maker.make().owe(1, 2, 2000), 1000000000);
    refused(ISE, maker, x -> x.owe(1, 2, 1000000));
    // 500,000 by 8,590 is above 2 to the 32nd: cut to an int it would be small.
    refused(ISE, maker, x -> x.owe(1, 2, 8590));
  }

  static void promise45_theNumberAheadOfTooMuch() {
    Maker maker = () -> {
      PrimeCoins x = rich();
      x.owe(1, 2, 1000000);
      x.owe(1, 2, 1000);
      return x;
    };
    refused(IAE, maker, x -> x.owe(1, 2, 1000001));
    refused(IAE, maker, x -> x.owe(1, 2, 0));
    refused(IAE, maker, x -> x.owe(1, 2, Long.MAX_VALUE));
    refused(ISE, maker, x -> x.owe(1, 2, 2));
  }

  static void promise45_bothOne() {
    refused(IAE, x -> x.owe(0, 0, 2));
    refused(IAE, x -> x.owe(2, 2, 0));
  }

  static void promise45_noSuchPersonFirst() {
    int[] none = {-1, 3, Integer.MIN_VALUE, Integer.MAX_VALUE};
    for (int p : none) {
      refused(NSE, x -> x.owe(p, 0, 2));
      refused(NSE, x -> x.owe(0, p, 2));
      refused(NSE, x -> x.owe(p, p, 0));
    }
  }

  static void promise46_noneAndOneself() {
    PrimeCoins x = rich();
    due("none", x.owed(1, 2), 1);
    due("to oneself", x.owed(0, 0), 1);
    due("to oneself", x.owed(2, 2), 1);
    due("some", x.owed(0, 1), 6);
    due("the other way", x.owed(1, 0), 35);
  }

  static void promise46_noSuchPerson() {
    int[] none = {-1, 3, Integer.MIN_VALUE, Integer.MAX_VALUE};
    for (int p : none) {
      refused(NSE, x -> x.owed(p, 0));
      refused(NSE, x -> x.owed(0, p));
      refused(NSE, x -> x.owed(p, p));
    }
  }

  // ---- 47: struck

  static void promise47_none() {
    stays(0, x -> x.struck());
    due("of nothing", fresh().struck(), 0);
    due("of no debts", five().struck(), 0);
  }

  static void promise47_aRingWithA1() {
    PrimeCoins x = five();
    x.owe(0, 1, 6);
    due("one alone", x.struck(), 0);
    x.owe(1, 2, 6);
    due("two of three", x.struck(), 0);
    due("they stay", x.owed(0, 1) * x.owed(1, 2), 36);
  }

  static void promise47_nothingInCommon() {
    PrimeCoins x = five();
    x.owe(0, 1, 6);
    x.owe(1, 0, 35);
    x.owe(2, 3, 6);
    x.owe(3, 4, 10);
    x.owe(4, 2, 15);
    due("none by all three", x.struck(), 0);
    due("they stay", x.owed(2, 3) + x.owed(3, 4) + x.owed(4, 2), 31);
  }

  static void promise47_downTo1() {
    PrimeCoins x = five();
    x.owe(3, 4, 1000000);
    x.owe(3, 4, 1000);
    x.owe(4, 3, 1000000);
    x.owe(4, 3, 1000);
    due("all at once", x.struck(), 1);
    due("debts", x.count(6), 0);
    due("owed", x.owed(3, 4), 1);
  }

  static void promise47_allThreeAreDivided() {
    int[][] rings = {{0, 1, 2}, {0, 2, 1}, {1, 3, 4}, {2, 4, 3}, {0, 4, 1}};
    for (int[] ring : rings) {
      PrimeCoins x = five();
      x.owe(ring[0], ring[1], 30);
      x.owe(ring[1], ring[2], 42);
      x.owe(ring[2], ring[0], 66);
      due("once", x.struck(), 1);
      due("by 6", x.owed(ring[0], ring[1]), 5);
      due("by 6", x.owed(ring[1], ring[2]), 7);
      due("by 6", x.owed(ring[2], ring[0]), 11);
    }
  }

  static void promise47_bothAreDivided() {
    for (int a = 0; a < 5; a++) {
      for (int b = 0; b < 5; b++) {
        if (a != b) {
          PrimeCoins x = five();
          x.owe(a, b, 12);
          x.owe(b, a, 30);
          due("once", x.struck(), 1);
          due("by 6", x.owed(a, b), 2);
          due("by 6", x.owed(b, a), 5);
        }
      }
    }
  }

  static void promise47_twoAheadOfThree() {
    PrimeCoins x = five();
    x.owe(0, 1, 2);
    x.owe(1, 2, 2);
    x.owe(2, 0, 2);
    x.owe(2, 1, 2);
    due("the two", x.struck(), 1);
    due("of the ring one stays", x.owed(0, 1) * x.owed(2, 0), 4);
    due("one doesn't", x.owed(1, 2), 1);
    due("the last two ahead of the first three", lastTwo().struck(), 1);
  }

  private static PrimeCoins lastTwo() {
    PrimeCoins x = five();
    x.owe(0, 3, 2);
    x.owe(3, 4, 2);
    x.owe(4, 0, 2);
    x.owe(4, 3, 2);
    return x;
  }

  static void promise47_thenByNumbers() {
    PrimeCoins x = five();
    x.owe(0, 1, 2);
    x.owe(1, 2, 2);
    x.owe(2, 0, 2);
    x.owe(1, 3, 2);
    x.owe(3, 0, 2);
    due("0 1 2 ahead of 0 1 3", x.struck(), 1);
    due("0 1 3 has lost one", x.owed(1, 3) * x.owed(3, 0), 4);
    PrimeCoins y = five();
    y.owe(0, 2, 2);
    y.owe(2, 1, 2);
    y.owe(1, 0, 2);
    y.owe(2, 3, 2);
    y.owe(3, 1, 2);
    due("0 2 1 ahead of 1 0 2 3", y.struck(), 1);
    due("1 2 3 is no ring then", y.owed(2, 3) * y.owed(3, 1), 4);
  }

  static void promise47_againAndAgain() {
    PrimeCoins x = five();
    x.owe(0, 1, 12);
    x.owe(1, 0, 18);
    x.owe(1, 2, 9);
    x.owe(2, 1, 6);
    x.owe(2, 0, 15);
    due("0 1 by 6, 1 2 by 3", x.struck(), 2);
    due("0 owes 1", x.owed(0, 1), 2);
    due("1 owes 0", x.owed(1, 0), 3);
    due("1 owes 2", x.owed(1, 2), 3);
    due("2 owes 1", x.owed(2, 1), 2);
    due("no more", x.struck(), 0);
    x.owe(0, 1, 3);
    due("then three, and 0 1 at first", x.struck(), 1);
    due("0 owes 1", x.owed(0, 1), 2);
  }

  // ---- 48 to 50

  static void promise48_noSuchTrayFirst() {
    int[] none = {-1, 4, Integer.MIN_VALUE, Integer.MAX_VALUE};
    for (int t : none) {
      refused(NSE, x -> tray(x, t, 0, 0));
      refused(NSE, x -> tray(x, t, 4, 31));
    }
  }

  static void promise48_noSuchSort() {
    int[] none = {-1, 4, Integer.MIN_VALUE, Integer.MAX_VALUE};
    for (int sort : none) {
      refused(IAE, x -> tray(x, 0, sort, 3));
      refused(IAE, x -> tray(x, 3, sort, 3));
    }
  }

  static void promise48_notSoMany() {
    int[] none = {-1, 31, Integer.MIN_VALUE, Integer.MAX_VALUE};
    for (int many : none) {
      refused(IAE, x -> tray(x, 0, 2, many));
      refused(IAE, x -> tray(x, 3, 2, many));
    }
  }

  static void promise48_noPlacesAndThirty() {
    for (int t = 0; t < 4; t++) {
      for (int sort = 0; sort < 4; sort++) {
        int tray = t;
        PrimeCoins x = fresh();
        tray(x, t, sort, 0);
        Check.throwsDue("no places", IOOBE, () -> x.write(tray, 0, 1));
        tray(x, t, sort, 30);
        due("the last", x.write(t, 29, 1), 1);
        Check.throwsDue("none behind", IOOBE, () -> x.write(tray, 30, 1));
      }
    }
  }

  static void promise48_aRowOf0sAgain() {
    PrimeCoins x = of("mint 2 3;purse 2;purse;");
    Check.row(x, 0, 2, 102, 2, 1);
    tray(x, 0, 2, 2);
    due("a 0 is no deal", x.judge(0, 1), 1);
    due("a 0 is the first", x.judge(0, 0), 0);
    tray(x, 0, 2, 3);
    x.write(0, 0, 102);
    due("what was behind is 0, too", x.judge(0, 0), 1);
    Check.row(x, 1, 3, 3, 2);
    tray(x, 1, 3, 2);
    x.write(1, 0, 3);
    due("remainder 0", x.fitting(1, 1, 0), 3);
  }

  static void promise48_othersStay() {
    PrimeCoins x = rich();
    tray(x, 3, 0, 5);
    due("the deals", x.judge(0, 0), NONE);
    due("the remainders", x.fitting(1, 2, 0), 4);
    Check.throwsDue("no places", IOOBE, () -> x.write(2, 0, 0));
  }

  static void promise49_noSuchTrayFirst() {
    int[] none = {-1, 4, Integer.MIN_VALUE, Integer.MAX_VALUE};
    for (int t : none) {
      refused(NSE, x -> x.write(t, 0, 1));
      refused(NSE, x -> x.write(t, 30, 1));
    }
  }

  static void promise49_aMissingTrayThen() {
    refused(ISE, x -> x.write(3, 0, 1));
    refused(ISE, x -> x.write(3, -1, 1));
    refused(ISE, x -> x.write(3, 30, 1));
  }

  static void promise49_noSuchPlace() {
    int[] none = {-1, 3, 30, Integer.MIN_VALUE, Integer.MAX_VALUE};
    for (int place : none) {
      refused(IOOBE, x -> x.write(0, place, 1));
    }
    refused(IOOBE, x -> x.write(2, 0, 1));
    due("the last", rich().write(0, 2, 7), 7);
    due("the first", rich().write(0, 0, 7), 7);
  }

  private static void cut(int sort, int bits) {
    PrimeCoins x = fresh();
    tray(x, 0, sort, 1);
    long top = 1L << bits - 1;
    long[] numbers = {0, 1, -1, top - 1, top, top + 1, -top, -top - 1, 2 * top - 1, 2 * top, 2 * top + 1, -2 * top,
        Long.MAX_VALUE, Long.MIN_VALUE};
    for (long v : numbers) {
      due(bits + " bits of " + v, x.write(0, 0, v), v << 64 - bits >> 64 - bits);
    }
  }

  static void promise49_cutTo8Bits() {
    cut(0, 8);
    PrimeCoins x = fresh();
    tray(x, 0, 0, 1);
    due("127", x.write(0, 0, 127), 127);
    due("128", x.write(0, 0, 128), -128);
    due("-129", x.write(0, 0, -129), 127);
    due("256", x.write(0, 0, 256), 0);
  }

  static void promise49_cutTo16Bits() {
    cut(1, 16);
    PrimeCoins x = fresh();
    tray(x, 0, 1, 1);
    due("32767", x.write(0, 0, 32767), 32767);
    due("32768", x.write(0, 0, 32768), -32768);
    due("65536", x.write(0, 0, 65536), 0);
  }

  static void promise49_cutTo32Bits() {
    cut(2, 32);
    PrimeCoins x = fresh();
    tray(x, 0, 2, 1);
    due("2 to the 31st less 1", x.write(0, 0, 2147483647L), 2147483647L);
    due("2 to the 31st", x.write(0, 0, 2147483648L), -2147483648L);
    due("2 to the 32nd", x.write(0, 0, 4294967296L), 0);
  }

  static void promise49_64BitsAreAll() {
    cut(3, 64);
    PrimeCoins x = fresh();
    tray(x, 0, 3, 1);
    due("the greatest", x.write(0, 0, Long.MAX_VALUE), Long.MAX_VALUE);
    due("the least", x.write(0, 0, Long.MIN_VALUE), Long.MIN_VALUE);
  }

  static void promise49_asItIsThere() {
    long[] wraps = {256, 65536, 1L << 32};
    for (int sort = 0; sort < 3; sort++) {
      PrimeCoins x = of("mint 2;purse 2;purse;");
      Check.row(x, 0, sort, wraps[sort] + 102);
      due("it is a deal there", x.judge(0, 0), NONE);
      Check.row(x, 0, sort + 1, wraps[sort] + 102);
      due("it is none in the next", x.judge(0, 1), 1);
    }
  }

  static void promise50_noSuchTray() {
    int[] none = {-1, 4, Integer.MIN_VALUE, Integer.MAX_VALUE};
    for (int t : none) {
      refused(NSE, x -> x.pour(t));
    }
  }

  static void promise50_aMissingTray() {
    refused(ISE, x -> x.pour(3));
    refused(ISE, Edge::fresh, x -> x.pour(0));
  }

  static void promise50_noPlacesOrNobody() {
    stays(0, x -> x.pour(2));
    PrimeCoins x = of("mint 2 3;");
    Check.row(x, 0, 1, 3, 0);
    due("nobody", x.pour(0), 0);
    due("all stays", x.fitting(0, 1, 0), 3);
  }

  static void promise50_asManyAsItHasPlaces() {
    PrimeCoins x = of("mint 2 3 5;purse 5;purse 3;purse 2;purse;purse;");
    Check.row(x, 0, 1, 9, 9);
    due("two of five", x.pour(0), 2);
    due("5 and 3", x.fitting(0, 1, 0), 3);
    Check.row(x, 0, 1, 9, 9, 9, 9, 9);
    due("five of five", x.pour(0), 5);
  }

  static void promise50_asManyAsThereAre() {
    PrimeCoins x = of("mint 2 3 5;purse 5;purse 3;");
    Check.row(x, 0, 1, 9, 9, 3, 1);
    due("two", x.pour(0), 2);
    // 5 and 3, then 3 and 1: 13 is no bag's; 28 would be. With 3 and 0 a 3 fits.
    due("those behind stay", x.fitting(0, 1, NONE), 0);
    x.write(0, 3, 0);
    due("now it fits", x.fitting(0, 1, 0), 3);
  }

  /** 2 to the 8th, 2 to the 9th and 2 to the 7th. */
  static void promise50_cutToItsSort() {
    PrimeCoins x = of("mint 2 5;purse 2 times 8;purse 2 times 7;");
    tray(x, 0, 0, 2);
    x.pour(0);
    Check.throwsDue("256 is 0 there", IAE, () -> x.fitting(0, 1, 0));
    x.write(0, 0, 5);
    Check.throwsDue("128 is -128 there", IAE, () -> x.fitting(0, 1, 0));
    tray(x, 0, 1, 2);
    x.pour(0);
    due("256 and 128 in 16 bits", x.fitting(0, 1, NONE), 0);
    PrimeCoins great = of("mint 97 2;purse 97 times 9;");
    for (int sort = 0; sort < 4; sort++) {
      tray(great, 0, sort, 1);
      due("the greatest", great.pour(0), 1);
      due("no deal", great.judge(0, 1), 1);
    }
  }

  // ---- 51, 52

  static void promise51_noSuchImage() {
    int[] none = {-1, 3, Integer.MIN_VALUE, Integer.MAX_VALUE};
    for (int i : none) {
      refused(NSE, x -> image(x, i));
    }
  }

  static void promise51_eachOfThree() {
    PrimeCoins x = of("mint 2;purse;");
    for (int i = 0; i < 3; i++) {
      x.strike(0, 2);
      due("image " + i, image(x, i), "made");
    }
    for (int i = 0; i < 3; i++) {
      restore(x, i);
      due("worth " + i, x.worth(0), 2L << i);
    }
  }

  static void promise51_ofNothing() {
    PrimeCoins x = fresh();
    image(x, 0);
    Check.town(x, "mint 2;purse 2;");
    restore(x, 0);
    due("nobody", x.count(2), 0);
    due("no coins", x.count(1), 0);
    due("no lines", x.count(0), 0);
  }

  static void promise51_madeAnew() {
    PrimeCoins x = rich();
    image(x, 1);
    x.tax(0);
    restore(x, 1);
    due("the later one", x.worth(0), 12);
  }

  static void promise51_itStaysAsItWas() {
    PrimeCoins x = rich();
    restore(x, 1);
    x.tax(0);
    x.owe(0, 1, 2);
    x.changes(0, 1);
    restore(x, 1);
    due("worth", x.worth(0), 60);
    due("debts", x.owed(0, 1), 6);
    due("treasury", x.count(5), 0);
  }

  static void promise52_noSuchImage() {
    int[] none = {-1, 3, Integer.MIN_VALUE, Integer.MAX_VALUE};
    for (int i : none) {
      refused(NSE, x -> restore(x, i));
    }
  }

  static void promise52_noneWasMade() {
    refused(ISE, x -> restore(x, 0));
    refused(ISE, x -> restore(x, 2));
    refused(ISE, Edge::fresh, x -> restore(x, 1));
  }

  static void promise52_allButTheTapeTheFaultAndTrays() {
    PrimeCoins x = rich();
    restore(x, 1);
    due("worth", x.worth(0), 60);
    due("another's", x.worth(2), 1);
    due("treasury", x.count(5), 0);
    due("debts", x.count(6), 3);
    due("the tape", x.count(7), 20);
    due("the fault", x.fault(0), 3);
    due("its place", x.fault(1), 5);
    due("a tray", x.fitting(1, 2, 0), 4);
    due("deals", x.judge(0, 0), NONE);
    Check.throwsDue("a missing one", ISE, () -> x.judge(3, 0));
    due("the tape's town", x.town(20), 2);
    due("its worth", x.worth(0), 49);
  }

  static void promise52_anotherTown() {
    PrimeCoins x = rich();
    due("another", x.town(20), 2);
    restore(x, 1);
    due("lines", x.count(0), 6);
    due("coins", x.count(1), 3);
    due("people", x.count(2), 3);
    due("changes", x.count(3), 2);
    due("a change", x.change(1, 1), 8);
    due("owed", x.owed(1, 0), 35);
  }

  /** IMAGES aren't part of an IMAGE: one that was made later stays made. */
  static void promise52_imagesStay() {
    PrimeCoins x = rich();
    image(x, 2);
    restore(x, 1);
    due("a later one", restore(x, 2), "restored");
    due("worth", x.worth(0), 12);
  }

  // ---- 53: count

  static void promise53_others() {
    int[] others = {-1, 8, Integer.MIN_VALUE, Integer.MAX_VALUE};
    for (int what : others) {
      due("count " + what, fresh().count(what), NONE);
      due("count " + what, rich().count(what), NONE);
    }
  }

  static void promise53_eachOfARichOne() {
    PrimeCoins x = rich();
    int[] due = {6, 3, 3, 2, 6, 1, 4, 20};
    for (int what = 0; what < 8; what++) {
      due("count " + what, x.count(what), due[what]);
    }
  }

  static void promise53_theMostOfAll() {
    PrimeCoins x = of("mint 2 3 5 7 11 13 17 19;" + "purse 2 times 9;".repeat(5) + "change 2 into 2;".repeat(6));
    for (int p = 0; p < 5; p++) {
      for (int q = 0; q < 5; q++) {
        if (p != q) {
          x.owe(p, q, 2);
        }
      }
    }
    for (int i = 0; i < 35; i++) {
      x.feed(0, 0, 0, 0, 0);
    }
    int[] due = {12, 8, 5, 6, 45, 0, 20, 700};
    for (int what = 0; what < 8; what++) {
      due("count " + what, x.count(what), due[what]);
    }
    x.tax(0);
    x.owe(0, 1, 1);
    due("coins in purses", x.count(4), 44);
    due("in the treasury", x.count(5), 1);
    due("ten rings of two", x.struck(), 10);
    due("no debts", x.count(6), 0);
  }
}
