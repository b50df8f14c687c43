/** Edges of promises 31 to 36: two purses, and what is missing. */
final class PurseEdges extends Edge {
  private PurseEdges() {
  }

  // ---- 31: swap

  private static void swap(PrimeCoins x, int p, int q, long goes, long comes, long differ) {
    due("goes", x.swap(p, q, 0), goes);
    due("comes", x.swap(p, q, 1), comes);
    due("differ", x.swap(p, q, 2), differ);
  }

  static void promise31_noSuchSwap() {
    PrimeCoins x = of("mint 2 3;purse;purse 2 2;purse 2;purse 3;");
    swap(x, 0, 1, NONE, NONE, NONE);
    swap(x, 1, 0, NONE, NONE, NONE);
    swap(x, 1, 2, NONE, NONE, NONE);
    swap(x, 2, 3, 2, 3, 1);
    PrimeCoins none = of("mint 2;purse;purse;");
    swap(none, 0, 1, NONE, NONE, NONE);
  }

  static void promise31_byNothing() {
    swap(of("mint 2 3 5;purse 2 2 5;purse 3 5 3;"), 0, 1, 2, 3, 0);
  }

  static void promise31_theFirstByHersThenTheOtherOnes() {
    // 15 and 77: 3 for 7, 3 for 11, 5 for 7 and 5 for 11 leave 2, 34, 34 and 2.
    swap(of("mint 3 5 7 11;purse 3 5;purse 7 11;"), 0, 1, 3, 7, 2);
    swap(of("mint 5 3 7 11;purse 3 5;purse 7 11;"), 0, 1, 5, 11, 2);
    // 6 and 6: 2 for 3 leaves 9 and 4, 3 for 2 leaves 4 and 9.
    swap(of("mint 3 2;purse 2 3;purse 2 3;"), 0, 1, 3, 2, 5);
    swap(of("mint 2 3;purse 2 3;purse 2 3;"), 0, 1, 2, 3, 5);
    // 2 against 21: 2 for 3 leaves 3 and 14, 2 for 7 leaves 7 and 6.
    swap(of("mint 2 7 3;purse 2;purse 3 7;"), 0, 1, 2, 7, 1);
    // 6 and 35: 2 for 5 leaves 15 and 14, 3 for 7 leaves 14 and 15.
    swap(of("mint 7 5 3 2;purse 2 3;purse 5 7;"), 0, 1, 3, 7, 1);
    swap(of("mint 5 7 2 3;purse 2 3;purse 5 7;"), 0, 1, 2, 5, 1);
  }

  static void promise31_theGreatest() {
    PrimeCoins x = of("mint 2 97;purse 97 times 9;purse 2;");
    long least = 97L * 97 * 97 * 97 * 97 * 97 * 97 * 97 * 2 - 97;
    swap(x, 0, 1, 97, 2, least);
    swap(x, 1, 0, 2, 97, least);
    PrimeCoins y = of("mint 2 97;purse 97 times 8 2;purse 97 times 9;");
    swap(y, 0, 1, 2, 97, 97L * 97 * 97 * 97 * 97 * 97 * 97 * 97 * 95);
  }

  /** 12 and 9: 2 for 3 leaves 18 and 6, and there is no other. */
  static void promise31_nothingIsSwapped() {
    stays(2L, x -> x.swap(0, 1, 0));
    stays(3L, x -> x.swap(0, 1, 1));
    stays(12L, x -> x.swap(0, 1, 2));
  }

  static void promise31_bothOne() {
    refused(IAE, x -> x.swap(0, 0, 0));
    refused(IAE, x -> x.swap(2, 2, 3));
  }

  static void promise31_anotherWhat() {
    int[] others = {-1, 3, Integer.MIN_VALUE, Integer.MAX_VALUE};
    for (int what : others) {
      refused(IAE, x -> x.swap(0, 1, what));
      refused(IAE, () -> of("mint 2;purse;purse;"), x -> x.swap(0, 1, what));
    }
  }

  static void promise31_noSuchPersonFirst() {
    int[] none = {-1, 3, Integer.MIN_VALUE, Integer.MAX_VALUE};
    for (int p : none) {
      refused(NSE, x -> x.swap(p, 0, 0));
      refused(NSE, x -> x.swap(0, p, 0));
      refused(NSE, x -> x.swap(p, p, 0));
      refused(NSE, x -> x.swap(0, p, 3));
    }
  }

  // ---- 32 to 34

  static void promise32_ofNoneAndOfOneself() {
    PrimeCoins x = of("mint 2 97;purse;purse 2 2;purse 97 times 9;");
    due("of none", x.common(0, 1), 1);
    due("of none twice", x.common(0, 0), 1);
    due("of oneself", x.common(1, 1), 4);
    due("nothing in common", x.common(1, 2), 1);
    due("the greatest", x.common(2, 2), 760231058654565217L);
  }

  static void promise32_noSuchPerson() {
    int[] none = {-1, 3, Integer.MIN_VALUE, Integer.MAX_VALUE};
    for (int p : none) {
      refused(NSE, x -> x.common(p, 0));
      refused(NSE, x -> x.common(0, p));
      refused(NSE, x -> x.common(p, p));
    }
  }

  static void promise33_fromNoneTo18() {
    PrimeCoins x = of("mint 2 97;purse;purse 2 times 9;purse 97 times 9;purse 2 2 97;");
    due("of none", x.least(0, 0), 0);
    due("of none and nine", x.least(0, 1), 9);
    due("of oneself", x.least(1, 1), 9);
    due("of both full", x.least(1, 2), 18);
    due("what is in both counts once", x.least(1, 3), 10);
  }

  static void promise33_noSuchPerson() {
    int[] none = {-1, 3, Integer.MIN_VALUE, Integer.MAX_VALUE};
    for (int p : none) {
      refused(NSE, x -> x.least(p, 0));
      refused(NSE, x -> x.least(0, p));
      refused(NSE, x -> x.least(p, p));
    }
  }

  static void promise34_nobody() {
    due("of nothing", fresh().friends(), 0);
    due("of a mint", of("mint 2;").friends(), 0);
  }

  static void promise34_oneAlone() {
    due("one", of("mint 2;purse 2;").friends(), 1);
    due("one with none", of("mint 2;purse;").friends(), 1);
  }

  static void promise34_allFive() {
    due("none has any", of("mint 2;purse;purse;purse;purse;purse;").friends(), 31);
    due("each another", of("mint 2 3 5 7 11;purse 2;purse 3;purse 5;purse 7;purse 11;").friends(), 31);
    due("all alike", of("mint 2;purse 2;purse 2;purse 2;purse 2;purse 2;").friends(), 1);
  }

  static void promise34_theLeastAsBitsOfLikeOnes() {
    due("0 and 1", of("mint 2 3;purse 2;purse 3;purse 2;purse 3;").friends(), 3);
    due("1 and 2, not 3", of("mint 2 3 5;purse 2 3;purse 2 5;purse 3;purse 5;").friends(), 6);
    due("the last three", of("mint 2 3 5;purse 2 3 5;purse 2 3 5;purse 2;purse 3;purse 5;").friends(), 28);
    due("the last two", of("mint 2 3;purse 2 3;purse 3 2;purse 2;purse 3;").friends(), 12);
  }

  // ---- 35: stolen

  static void promise35_ofNone() {
    due("of none", of("mint 2;purse;").stolen(0, 2, 0), 0);
    due("of none", of("mint 2;purse;").stolen(0, 2, 1), 0);
  }

  static void promise35_theLastCoin() {
    PrimeCoins x = of("mint 2 97;purse 97;");
    due("1 is left", x.stolen(0, 2, 1), 2);
    due("1 by much", x.stolen(0, 1000000000, 1), 2);
    due("not 0", x.stolen(0, 2, 0), 0);
  }

  static void promise35_allEightKinds() {
    PrimeCoins x = of("mint 2 3 5 7 11 13 17 19;purse 2 3 5 7 11 13 17 19 2;");
    due("all leave an even one", x.stolen(0, 2, 0), 255);
    due("by 4", x.stolen(0, 4, 2), 1);
    due("by 19", x.stolen(0, 19, 9699690L * 2 / 19 % 19), 128);
  }

  static void promise35_theNumber() {
    long[] wrong = {1, 0, -1, -2, 1000000001L, (1L << 32) + 2, Long.MIN_VALUE, Long.MAX_VALUE};
    for (long by : wrong) {
      refused(IAE, x -> x.stolen(0, by, 0));
    }
    // 12: 6 and 4 are left.
    due("the least", rich().stolen(0, 2, 0), 6);
    due("the greatest", rich().stolen(0, 1000000000, 6), 2);
    due("the greatest", rich().stolen(0, 1000000000, 4), 4);
  }

  static void promise35_theRemainder() {
    long[] wrong = {-1, 10, 11, (1L << 32) + 4, Long.MIN_VALUE, Long.MAX_VALUE};
    for (long rest : wrong) {
      refused(IAE, x -> x.stolen(0, 10, rest));
    }
    due("0", rich().stolen(0, 4, 0), 4);
    due("one below", of("mint 2 3;purse 2 3;").stolen(0, 4, 3), 1);
  }

  static void promise35_noSuchPersonFirst() {
    int[] none = {-1, 3, Integer.MIN_VALUE, Integer.MAX_VALUE};
    for (int p : none) {
      refused(NSE, x -> x.stolen(p, 2, 0));
      refused(NSE, x -> x.stolen(p, 1, 5));
    }
  }

  // ---- 36: fitting

  private static PrimeCoins fits(long... numbers) {
    PrimeCoins x = of("mint 2 3 5 7;");
    Check.row(x, 0, 3, numbers);
    return x;
  }

  static void promise36_noSuchTray() {
    int[] none = {-1, 4, Integer.MIN_VALUE, Integer.MAX_VALUE};
    for (int t : none) {
      refused(NSE, x -> x.fitting(t, 1, NONE));
      refused(NSE, x -> x.fitting(t, 0, 0));
    }
  }

  static void promise36_aMissingTray() {
    refused(ISE, x -> x.fitting(3, 1, NONE));
    refused(ISE, x -> x.fitting(3, 5, 0));
    refused(ISE, Edge::fresh, x -> x.fitting(0, 0, NONE));
  }

  static void promise36_nBounds() {
    int[] wrong = {0, -1, 5, Integer.MIN_VALUE, Integer.MAX_VALUE};
    for (int n : wrong) {
      refused(IAE, x -> x.fitting(1, n, NONE));
      refused(IAE, x -> x.fitting(2, n, 0));
    }
    due("one", fits().fitting(0, 1, NONE), 4);
    due("four", fits().fitting(0, 4, NONE), 35);
  }

  static void promise36_numbersThatAreNoneSuch() {
    long[] wrong = {1, 0, -1, -10, 1001, (1L << 32) + 10, Long.MIN_VALUE, Long.MAX_VALUE};
    for (long number : wrong) {
      refused(IAE, () -> fits(number, 0), x -> x.fitting(0, 1, NONE));
      refused(IAE, () -> fits(10, 4, number, 0), x -> x.fitting(0, 1, 0));
    }
    due("2", fits(2, 1).fitting(0, 1, NONE), 3);
    due("1000", fits(1000, 7).fitting(0, 1, NONE), 1);
  }

  static void promise36_remaindersThatAreNoneSuch() {
    long[] wrong = {-1, 10, 11, (1L << 32) + 4, Long.MIN_VALUE, Long.MAX_VALUE};
    for (long rest : wrong) {
      refused(IAE, () -> fits(10, rest), x -> x.fitting(0, 1, NONE));
      refused(IAE, () -> fits(10, 4, 10, rest), x -> x.fitting(0, 1, 0));
    }
    due("0", fits(5, 0).fitting(0, 1, NONE), 1);
    due("one below", fits(6, 5).fitting(0, 1, NONE), 1);
    due("999 of 1000", fits(1000, 999).fitting(0, 4, NONE), 0);
  }

  static void promise36_anOddMany() {
    refused(IAE, () -> fits(10), x -> x.fitting(0, 1, NONE));
    refused(IAE, () -> fits(10, 4, 10), x -> x.fitting(0, 1, 0));
    refused(IAE, () -> fits(new long[29]), x -> x.fitting(0, 1, 0));
  }

  static void promise36_anEmptyTray() {
    int[] due = {4, 10, 20, 35};
    for (int n = 1; n <= 4; n++) {
      due("all bags of " + n, fits().fitting(0, n, NONE), due[n - 1]);
    }
  }

  static void promise36_aFullTray() {
    long[] rests = new long[30];
    for (int i = 0; i < 30; i += 2) {
      rests[i] = 30 + i;
      rests[i + 1] = 21;
    }
    due("21 alone", fits(rests).fitting(0, 2, NONE), 1);
    due("it", fits(rests).fitting(0, 2, 0), 21);
    rests[29] = 20;
    due("not the last", fits(rests).fitting(0, 2, NONE), 0);
  }

  static void promise36_notSoMany() {
    PrimeCoins x = fits(10, 4);
    due("two", x.fitting(0, 2, NONE), 2);
    due("the first", x.fitting(0, 2, 0), 4);
    due("the last", x.fitting(0, 2, 1), 14);
    due("none behind", x.fitting(0, 2, 2), NONE);
    due("far behind", x.fitting(0, 2, Integer.MAX_VALUE), NONE);
    due("below", x.fitting(0, 2, -2), NONE);
    due("far below", x.fitting(0, 2, Integer.MIN_VALUE), NONE);
    due("none fits", x.fitting(0, 1, 0), NONE);
    due("none fits", x.fitting(0, 1, NONE), 0);
  }

  static void promise36_withoutCoins() {
    PrimeCoins x = fresh();
    Check.row(x, 0, 1);
    for (int n = 1; n <= 4; n++) {
      due("of no coins", x.fitting(0, n, NONE), 0);
      due("the first", x.fitting(0, n, 0), NONE);
    }
    refused(IAE, () -> {
      PrimeCoins y = fresh();
      Check.row(y, 0, 1, 10);
      return y;
    }, y -> y.fitting(0, 1, 0));
  }

  static void promise36_oneCoinAndEight() {
    PrimeCoins one = of("mint 97;");
    Check.row(one, 0, 1);
    due("one bag", one.fitting(0, 4, NONE), 1);
    due("its product", one.fitting(0, 4, 0), 88529281);
    due("none behind", one.fitting(0, 4, 1), NONE);
    PrimeCoins eight = of("mint 19 17 13 11 7 5 3 2;");
    Check.row(eight, 0, 1);
    due("bags", eight.fitting(0, 4, NONE), 330);
    due("the first", eight.fitting(0, 4, 0), 130321);
    due("the second", eight.fitting(0, 4, 1), 19L * 19 * 19 * 17);
    due("the last", eight.fitting(0, 4, 329), 16);
    due("none behind", eight.fitting(0, 4, 330), NONE);
  }

  /** COINS that are in no PURSE fit, too. */
  static void promise36_coinsOfTheMint() {
    PrimeCoins x = of("mint 2 3;purse;");
    Check.row(x, 0, 1, 3, 0);
    due("a 3", x.fitting(0, 1, 0), 3);
  }

  static void promise36_nothingChanges() {
    stays(1L, x -> x.fitting(1, 2, NONE));
    stays(4L, x -> x.fitting(1, 2, 0));
    stays(NONE, x -> x.fitting(1, 2, 1));
  }
}
