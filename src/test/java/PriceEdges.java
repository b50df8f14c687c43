import java.util.TreeSet;

/** Edges of promises 20 to 30: prices, the fewest changes, those who pay together. */
final class PriceEdges extends Edge {
  private static final long MOST = 760231058654565217L;

  private PriceEdges() {
  }

  /** Eight kinds and nine COINS, the greatest WORTH, one COIN, none. */
  private static PrimeCoins four() {
    return of("mint 97 2 89 3 83 5 79 7;purse 97 2 89 3 83 5 79 7 2;purse 97 times 9;purse 7;purse;");
  }

  private static void nobodyElse(Asker... calls) {
    for (Asker call : calls) {
      refused(NSE, call);
    }
  }

  // ---- 20 to 24

  static void promise20_ofNoneOneNineAndAllKinds() {
    PrimeCoins x = four();
    due("of none", x.prices(3), 1);
    due("of one", x.prices(2), 2);
    due("of nine alike", x.prices(1), 10);
    due("of all kinds", x.prices(0), 384);
  }

  static void promise20_noSuchPerson() {
    nobodyElse(x -> x.prices(-1), x -> x.prices(3), x -> x.prices(FAR[0]), x -> x.prices(FAR[1]));
  }

  static void promise21_theFirstIs1() {
    for (int p = 0; p < 4; p++) {
      due("price 0 of " + p, four().price(p, 0), 1);
    }
  }

  static void promise21_theLastAndNoneBehind() {
    PrimeCoins x = four();
    for (int p = 0; p < 4; p++) {
      int many = x.prices(p);
      due("the last of " + p, x.price(p, many - 1), x.worth(p));
      due("none behind", x.price(p, many), NONE);
      due("below", x.price(p, -1), NONE);
      due("far below", x.price(p, FAR[0]), NONE);
      due("far above", x.price(p, FAR[1]), NONE);
    }
    due("the greatest", x.price(1, 9), MOST);
  }

  static void promise21_inOrder() {
    PrimeCoins x = four();
    TreeSet<Long> due = new TreeSet<>();
    due.add(1L);
    int[] coins = {97, 2, 89, 3, 83, 5, 79, 7, 2};
    for (int prime : coins) {
      for (long price : due.toArray(new Long[0])) {
        due.add(price * prime);
      }
    }
    int k = 0;
    for (long price : due) {
      due("price " + k, x.price(0, k), price);
      k++;
    }
    due("so many", k, 384);
  }

  static void promise21_noSuchPerson() {
    nobodyElse(x -> x.price(-1, 0), x -> x.price(3, 0), x -> x.price(3, -1), x -> x.price(FAR[1], 0));
  }

  static void promise22_oneAlone() {
    due("of none", four().gap(3), 0);
  }

  static void promise22_twoAndTen() {
    due("7 less 1", four().gap(2), 6);
    due("the greatest", four().gap(1), MOST / 97 * 96);
    due("2 less 1", of("mint 2;purse 2;").gap(0), 1);
    due("not the last", of("mint 2 47;purse 2 47;").gap(0), 47);
    due("not the last but the middle", of("mint 2 3 97;purse 2 3 97;").gap(0), 291);
  }

  static void promise22_noSuchPerson() {
    nobodyElse(x -> x.gap(-1), x -> x.gap(3), x -> x.gap(FAR[0]), x -> x.gap(FAR[1]));
  }

  static void promise23_ofTwoTheLesser() {
    PrimeCoins x = of("mint 2 3 7;purse 3;purse 7;purse 2 3 7;");
    due("2 lies between 1 and 3", x.nearest(0, 2), 1);
    due("3 is one", x.nearest(0, 3), 3);
    due("4 lies between 1 and 7", x.nearest(1, 4), 1);
    due("5 doesn't", x.nearest(1, 5), 7);
    due("10 lies between 7 and 14, not midway", x.nearest(2, 10), 7);
    due("11", x.nearest(2, 11), 14);
    due("midway", x.nearest(2, 28), 21);
    due("one more", x.nearest(2, 32), 42);
  }

  static void promise23_aPriceItself() {
    PrimeCoins x = four();
    for (int k = 0; k < 40; k++) {
      long price = x.price(0, k);
      due("nearest to " + price, x.nearest(0, price), price);
    }
    due("1", x.nearest(0, 1), 1);
    due("2", x.nearest(0, 2), 2);
  }

  static void promise23_belowTheFirst() {
    long[] low = {1, 0, -1, -1000, Long.MIN_VALUE + 1, Long.MIN_VALUE};
    for (long n : low) {
      for (int p = 0; p < 4; p++) {
        due("nearest to " + n, four().nearest(p, n), 1);
      }
    }
  }

  static void promise23_aboveTheLast() {
    PrimeCoins x = four();
    for (int p = 0; p < 4; p++) {
      due("itself", x.nearest(p, x.worth(p)), x.worth(p));
      due("one more", x.nearest(p, x.worth(p) + 1), x.worth(p));
      due("far more", x.nearest(p, Long.MAX_VALUE), x.worth(p));
    }
  }

  static void promise23_noSuchPerson() {
    nobodyElse(x -> x.nearest(-1, 1), x -> x.nearest(3, 1), x -> x.nearest(FAR[0], 1), x -> x.nearest(FAR[1], 1));
  }

  static void promise24_ofNone() {
    due("half", four().half(3), 1);
  }

  static void promise24_ofAPrime() {
    due("half", four().half(2), 1);
  }

  static void promise24_notAbove() {
    due("a square is not above", of("mint 3;purse 3 3;").half(0), 3);
    due("it isn't 3", of("mint 2 3;purse 2 3;").half(0), 2);
    due("4 of 20", of("mint 2 5;purse 2 2 5;").half(0), 4);
    due("3 of 12", of("mint 2 3;purse 2 2 3;").half(0), 3);
  }

  static void promise24_ofTheGreatest() {
    due("half of nine", four().half(1), 88529281);
    due("half of eight", of("mint 97;purse 97 times 8;").half(0), 88529281);
  }

  static void promise24_noSuchPerson() {
    nobodyElse(x -> x.half(-1), x -> x.half(3), x -> x.half(FAR[0]), x -> x.half(FAR[1]));
  }

  // ---- 25: fewest

  static void promise25_allIsThere() {
    stays(0, x -> x.fewest(0, 1));
    stays(0, x -> x.fewest(0, 12));
    stays(0, x -> x.fewest(0, 6));
    due("1 of none", four().fewest(3, 1), 0);
    due("all of the greatest", four().fewest(1, MOST), 0);
  }

  static void promise25_noNewOnes() {
    stays(NONE, x -> x.fewest(0, 36));
    due("none of no changes", of("mint 2;purse;").fewest(0, 2), NONE);
    due("none of nothing", of("mint 2;purse;change 2 into 2 2;").fewest(0, 2), NONE);
    due("round and round", of("mint 2 3 5;purse 2;change 2 into 3;change 3 into 2;").fewest(0, 5), NONE);
    due("like for like", of("mint 2 3;purse 2;change 2 into 2;").fewest(0, 3), NONE);
  }

  static void promise25_tenNeverFit() {
    PrimeCoins x = of("mint 2 3;purse 2 times 8;change 2 into 3 3;change 3 into 2;");
    due("the ninth", x.fewest(0, 9), 1);
    due("nine", x.fewest(0, 512), 3);
    due("no tenth", x.fewest(0, 1024), NONE);
    due("nor ten of both", x.fewest(0, 512 * 3), NONE);
  }

  static void promise25_moreThanThereIs() {
    due("far too many", of("mint 2 3;purse 2;change 2 into 2 2;").fewest(0, 1L << 62), NONE);
    due("nine of it", of("mint 2 3;purse 2;change 2 into 2 2;").fewest(0, 512), 8);
  }

  private static PrimeCoins just3000() {
    return of("mint 2 3 5 7 11 13;purse 2 times 5 7 13;change 2 into 3;change 3 into 5;"
        + "change 5 into 7;change 7 13 7 into 11;change 11 into 2 11;change 5 into 13;");
  }

  private static PrimeCoins just3001() {
    return of("mint 2 3 5 7 11 13;purse 2 times 6 11;change 2 into 3;change 3 into 5 5 7;"
        + "change 5 into 7;change 7 into 11;change 5 11 into 13;change 13 into 5;");
  }

  /** What one search met another one doesn't know of. */
  static void promise25_eachSearchBeginsAnew() {
    PrimeCoins x = of("mint 2 3 5 7 11;purse 2 times 9;purse 11;change 2 into 3;change 3 into 5;change 5 into 7;");
    due("far", x.fewest(0, 7L * 7 * 7 * 7 * 7 * 7 * 7 * 7 * 7), 27);
    due("none", x.fewest(1, 7), NONE);
    due("none", x.fewest(1, 2), NONE);
    due("it grows no more", x.grows(1, 6), 11);
    due("far again", x.fewest(0, 7L * 7 * 7 * 7 * 7 * 7 * 7 * 7 * 7), 27);
    due("as it was", x.fewest(0, 512), 0);
    due("nor that", x.fewest(0, 11), NONE);
  }

  /** Behind 69 CHANGES 3,000 are met. */
  static void promise25_threeThousandAreNotTooMany() {
    stays(70, PriceEdges::just3000, x -> x.fewest(0, 24801854));
  }

  /** Behind 45 CHANGES 3,001 are met, though the 46th and more would do. */
  static void promise25_oneMoreIs() {
    stays(PrimeCoins.SPENT, PriceEdges::just3001, x -> x.fewest(0, 3L * 343 * 14641 * 13));
  }

  static void promise25_aNumberThatDoesIsTold() {
    PrimeCoins x = of("mint 2 3 5 7 11 13 17;purse 2 times 9;change 2 into 3;change 3 into 5;change 5 into 7;"
        + "change 7 into 11;change 11 into 13;change 13 into 17;");
    due("near enough", x.fewest(0, 17), 6);
    due("too far", x.fewest(0, 17L * 17 * 17 * 17 * 17 * 17 * 17 * 17 * 17), PrimeCoins.SPENT);
  }

  static void promise25_noPriceOfCoins() {
    long[] none = {0, -1, -2, 7, 14, Long.MIN_VALUE, Long.MAX_VALUE, (1L << 32) + 1};
    for (long price : none) {
      refused(IAE, x -> x.fewest(0, price));
    }
  }

  static void promise25_noSuchPersonFirst() {
    nobodyElse(x -> x.fewest(-1, 2), x -> x.fewest(3, 2), x -> x.fewest(3, 0), x -> x.fewest(FAR[0], 7),
        x -> x.fewest(FAR[1], 2));
  }

  // ---- 26: together

  private static PrimeCoins five() {
    return of("mint 2 3;purse 2;purse 2;purse 2;purse 3;purse 2 2;");
  }

  static void promise26_aPriceOf1() {
    for (int what = 0; what < 2; what++) {
      due("of all " + what, five().together(31, 1, what), 0);
      due("of none " + what, five().together(0, 1, what), 0);
      due("without people " + what, fresh().together(0, 1, what), 0);
    }
  }

  static void promise26_notAllTogether() {
    for (int what = 0; what < 2; what++) {
      int asked = what;
      stays(NONE, PriceEdges::five, x -> x.together(31, 192, asked));
      stays(NONE, PriceEdges::five, x -> x.together(0, 2, asked));
      stays(NONE, PriceEdges::five, x -> x.together(23, 3, asked));
      stays(NONE, PriceEdges::five, x -> x.together(31, 1L << 62, asked));
    }
  }

  static void promise26_allOfThem() {
    due("all five", five().together(31, 96, 0), 5);
    due("which", five().together(31, 96, 1), 31);
  }

  static void promise26_theLeastAsBits() {
    due("one of three", five().together(31, 2, 1), 1);
    due("not the first", five().together(30, 2, 1), 2);
    due("fewer ahead of lesser", five().together(31, 4, 1), 16);
    due("two", five().together(15, 4, 1), 3);
    due("how many", five().together(15, 4, 0), 2);
  }

  static void promise26_aSetWithOthers() {
    int[] others = {-1, 8, 9, 15, 32, 1 << 30, Integer.MIN_VALUE, Integer.MAX_VALUE};
    for (int set : others) {
      refused(IAE, x -> x.together(set, 2, 0));
    }
    due("all who are there", rich().together(7, 2, 0), 1);
    refused(IAE, Edge::fresh, x -> x.together(1, 1, 0));
    refused(IAE, PriceEdges::five, x -> x.together(32, 1, 0));
  }

  static void promise26_noPriceOfCoins() {
    long[] none = {0, -1, -2, 7, 14, Long.MIN_VALUE, Long.MAX_VALUE};
    for (long price : none) {
      refused(IAE, x -> x.together(7, price, 0));
      refused(IAE, x -> x.together(0, price, 1));
    }
  }

  static void promise26_anotherWhat() {
    int[] others = {-1, 2, Integer.MIN_VALUE, Integer.MAX_VALUE};
    for (int what : others) {
      refused(IAE, x -> x.together(7, 2, what));
      refused(IAE, x -> x.together(0, 1, what));
    }
  }

  // ---- 27, 28

  static void promise27_bothToo() {
    PrimeCoins x = of("mint 2 3;purse 2 3;");
    due("2 to 3", x.between(0, 2, 3), 2);
    due("2 to 2", x.between(0, 2, 2), 1);
    due("1 to 6", x.between(0, 1, 6), 4);
    due("2 to 5", x.between(0, 2, 5), 2);
    due("4 to 5", x.between(0, 4, 5), 0);
    due("0 to 1", x.between(0, 0, 1), 1);
    due("6 to 7", x.between(0, 6, 7), 1);
    due("7 to 8", x.between(0, 7, 8), 0);
  }

  static void promise27_far() {
    PrimeCoins x = four();
    due("all", x.between(0, Long.MIN_VALUE, Long.MAX_VALUE), 384);
    due("the wrong way", x.between(0, Long.MAX_VALUE, Long.MIN_VALUE), 0);
    due("below", x.between(0, Long.MIN_VALUE, 0), 0);
    due("the greatest alone", x.between(1, MOST, Long.MAX_VALUE), 1);
    due("above it", x.between(1, MOST + 1, Long.MAX_VALUE), 0);
    due("of none", x.between(3, 1, 1), 1);
  }

  static void promise27_theWrongWay() {
    due("3 to 2", of("mint 2 3;purse 2 3;").between(0, 3, 2), 0);
  }

  static void promise27_noSuchPerson() {
    nobodyElse(x -> x.between(-1, 1, 2), x -> x.between(3, 1, 2), x -> x.between(3, 2, 1), x -> x.between(FAR[1], 1, 2));
  }

  static void promise28_theLeastAndTheGreatestPrime() {
    PrimeCoins x = four();
    due("by 2", x.dear(0, 2), 3);
    due("by 97", x.dear(0, 97), 384);
    due("by 89", x.dear(0, 89), 192);
    due("no 97 by 89", x.dear(1, 89), 1);
    due("97 by 97", x.dear(1, 97), 10);
    due("of none", x.dear(3, 2), 1);
    due("by itself", x.dear(2, 7), 2);
    due("by one less", x.dear(2, 5), 1);
  }

  static void promise28_noPrimeFrom2To97() {
    int[] none = {0, 1, -2, -1, 4, 9, 91, 95, 96, 98, 99, 101, 103, Integer.MIN_VALUE, Integer.MAX_VALUE};
    for (int prime : none) {
      refused(IAE, x -> x.dear(0, prime));
    }
  }

  static void promise28_noSuchPersonFirst() {
    nobodyElse(x -> x.dear(-1, 2), x -> x.dear(3, 2), x -> x.dear(3, 4), x -> x.dear(FAR[0], 2), x -> x.dear(FAR[1], 2));
  }

  // ---- 29, 30

  static void promise29_noChanges() {
    due("of nothing", fresh().gainer(), NONE);
    due("of a town", of("mint 2;purse 2;").gainer(), NONE);
  }

  static void promise29_oneAloneThoughItLoses() {
    due("gainer", of("mint 2 97;change 97 97 97 into 2;").gainer(), 0);
  }

  static void promise29_theFirstOfLikeOnes() {
    String text = "mint 2 3;change 3 into 2;change 2 into 3;change 2 2 into 3 2;change 2 3 into 3 3;change 2 into 3;";
    due("the second", of(text).gainer(), 1);
    due("the sixth", of(text + "change 2 into 3 3 3;").gainer(), 5);
  }

  static void promise29_asAPartOfIt() {
    due("9 by 2, not 194 by 97", of("mint 2 3 97;change 97 into 97 2;change 2 into 3 3;").gainer(), 1);
    due("the greatest", of("mint 2 97;change 2 into 97 97 2;change 2 into 97 97 97;change 2 2 into 97 97 97;").gainer(), 1);
  }

  static void promise30_nBounds() {
    int[] wrong = {-1, 7, Integer.MIN_VALUE, Integer.MAX_VALUE};
    for (int n : wrong) {
      refused(IAE, x -> x.grows(0, n));
    }
    PrimeCoins x = of("mint 2;purse 2;change 2 into 2 2;");
    for (int n = 0; n <= 6; n++) {
      due("behind " + n, x.grows(0, n), 2L << n);
    }
  }

  static void promise30_noneIsWorthIt() {
    stays(12L, x -> x.grows(0, 0));
    PrimeCoins x = of("mint 2 97;purse 97;change 97 into 2;");
    due("it stays", x.grows(0, 6), 97);
    due("of none", of("mint 2;purse;change 2 into 2 2;").grows(0, 6), 1);
    due("without changes", of("mint 2;purse 2;").grows(0, 6), 2);
  }

  private static PrimeCoins losing() {
    return of("mint 2 3 97;purse 97;change 97 into 2;change 2 into 3 3 3;change 3 into 97;");
  }

  static void promise30_throughALoss() {
    long[] due = {97, 97, 97, 873, 28227, 912673, 912673};
    for (int n = 0; n <= 6; n++) {
      int most = n;
      stays(due[n], PriceEdges::losing, x -> x.grows(0, most));
    }
  }

  static void promise30_nineAndTen() {
    PrimeCoins x = of("mint 2;purse 2 times 7;change 2 into 2 2;change 2 into 2 2 2;");
    due("nine", x.grows(0, 1), 512);
    due("no more", x.grows(0, 6), 512);
    due("eight at first", of("mint 2;purse 2 times 7;change 2 into 2 2;").grows(0, 1), 256);
  }

  static void promise30_theGreatest() {
    PrimeCoins x = of("mint 2 97;purse 2 times 3;change 2 into 97 97 97;");
    due("behind two", x.grows(0, 2), 97L * 97 * 97 * 97 * 97 * 97 * 2);
    due("behind three", x.grows(0, 3), MOST);
    due("behind six", x.grows(0, 6), MOST);
  }

  /** As many PURSES as six CHANGES can meet behind six: 924, so none is SPENT. */
  static void promise30_neverSpent() {
    PrimeCoins x = of("mint 2 3 5 7 11 13 17;purse 2 times 9;change 2 into 3;change 2 into 5;change 2 into 7;"
        + "change 2 into 11;change 2 into 13;change 2 into 17;");
    due("behind six", x.grows(0, 6), 8L * 17 * 17 * 17 * 17 * 17 * 17);
  }

  static void promise30_noSuchPersonFirst() {
    nobodyElse(x -> x.grows(-1, 0), x -> x.grows(3, 0), x -> x.grows(3, 7), x -> x.grows(FAR[0], -1),
        x -> x.grows(FAR[1], 1));
  }
}
