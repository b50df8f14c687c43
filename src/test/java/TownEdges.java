/** Edges of promises 1 to 9: the new object, the tape, the text, the town. */
final class TownEdges extends Edge {
  private TownEdges() {
  }

  private static String blanks(int n) {
    return " ".repeat(n);
  }

  private static void fault(String text, int kind, int place) {
    PrimeCoins x = new PrimeCoins();
    due("town of " + text, Check.town(x, text), -10 - kind);
    due("fault of " + text, x.fault(0), kind);
    due("place in " + text, x.fault(1), place);
  }

  private static void lines(String text, int lines) {
    PrimeCoins x = new PrimeCoins();
    due("town of " + text, Check.town(x, text), lines);
    due("fault of " + text, x.fault(0), 0);
    due("place in " + text, x.fault(1), NONE);
  }

  // ---- 1: a new object

  static void promise01_theConstants() {
    due("NONE", PrimeCoins.NONE, -1);
    due("SPENT", PrimeCoins.SPENT, -1000);
  }

  static void promise01_noCoins() {
    PrimeCoins x = fresh();
    due("coins", x.count(1), 0);
    Check.throwsDue("coin", NSE, () -> x.coin(0));
    due("treasury", x.treasury(2), 0);
    Check.throwsDue("a price", IAE, () -> x.together(0, 2, 0));
    due("a price of none", x.together(0, 1, 0), 0);
  }

  static void promise01_noPeople() {
    PrimeCoins x = fresh();
    due("people", x.count(2), 0);
    Check.throwsDue("worth", NSE, () -> x.worth(0));
    Check.throwsDue("year", ISE, () -> x.year(1, 1));
    due("friends", x.friends(), 0);
    due("coins in purses", x.count(4), 0);
  }

  static void promise01_noChangesNoLines() {
    PrimeCoins x = fresh();
    due("lines", x.count(0), 0);
    due("changes", x.count(3), 0);
    Check.throwsDue("change", NSE, () -> x.change(0, 0));
    due("gainer", x.gainer(), NONE);
  }

  static void promise01_noDebtsNoTreasury() {
    PrimeCoins x = fresh();
    due("in the treasury", x.count(5), 0);
    due("readOut", x.readOut(7), 1);
    due("debts", x.count(6), 0);
    due("struck", x.struck(), 0);
  }

  static void promise01_allTraysAreMissing() {
    for (int t = 0; t < 4; t++) {
      int tray = t;
      PrimeCoins x = fresh();
      Check.throwsDue("write " + t, ISE, () -> x.write(tray, 0, 0));
      Check.throwsDue("pour " + t, ISE, () -> x.pour(tray));
      Check.throwsDue("judge " + t, ISE, () -> x.judge(tray, 0));
      Check.throwsDue("perform " + t, ISE, () -> x.perform(tray));
      Check.throwsDue("fitting " + t, ISE, () -> x.fitting(tray, 1, 0));
    }
  }

  static void promise01_noImages() {
    for (int i = 0; i < 3; i++) {
      int image = i;
      Check.throwsDue("restore " + i, ISE, () -> restore(fresh(), image));
    }
  }

  static void promise01_anEmptyTape() {
    PrimeCoins x = fresh();
    due("bytes", x.count(7), 0);
    Check.throwsDue("one byte", IAE, () -> x.town(1));
    due("none", x.town(0), -12);
  }

  // ---- 2: feed

  private static PrimeCoins fed(int feeds) {
    PrimeCoins x = fresh();
    for (int i = 1; i <= feeds; i++) {
      due("feed " + i, x.feed(0x20202020, 0x20202020, 0x20202020, 0x20202020, 0x20202020), 20 * i);
    }
    return x;
  }

  static void promise02_thirtyFiveFeedsFit() {
    due("bytes", fed(35).count(7), 700);
  }

  static void promise02_oneMoreChangesNothing() {
    stays(NONE, () -> fed(35), x -> x.feed(0x6d696e74, 0x20323b20, 0x20202020, 0x20202020, 0x20202020));
    PrimeCoins x = fresh();
    Check.feed(x, "mint 2;" + blanks(686) + "purse 2");
    due("no room", x.feed(0x3b3b3b3b, 0, 0, 0, 0), NONE);
    due("again", x.feed(0, 0, 0, 0, 0), NONE);
    due("bytes", x.count(7), 700);
    due("the text lacks its sign", x.town(700), -12);
    due("at its end", x.fault(1), 700);
  }

  static void promise02_theHighestOfEachIntFirst() {
    PrimeCoins x = fresh();
    // "mint 11 13;purse 13;"
    due("feed", x.feed(0x6d696e74, 0x20313120, 0x31333b70, 0x75727365, 0x2031333b), 20);
    due("lines", x.town(20), 2);
    due("coin 0", x.coin(0), 11);
    due("coin 1", x.coin(1), 13);
    due("worth", x.worth(0), 13);
  }

  static void promise02_bytesAbove127() {
    int[] heads = {0x80, 0xa0, 0xe9, 0xff, 0, 0x7f};
    for (int sign : heads) {
      PrimeCoins x = fresh();
      x.feed(0x6d696e74, 0x20323b20, sign << 24, 0, 0);
      due("sign " + sign, x.town(20), -11);
      due("its place", x.fault(1), 8);
      x.feed(0x6d696e74, 0x20323b20, 0x20202000 | sign, 0, 0);
      due("sign " + sign + " lowest", x.town(20), -11);
      due("its place", x.fault(1), 11);
    }
  }

  static void promise02_behindThoseOnTheTape() {
    PrimeCoins x = fresh();
    Check.feed(x, "mint 2 3 5;purse 2 3");
    Check.feed(x, " 5 times 3;purse 5 ;");
    due("lines", x.town(40), 3);
    due("worth", x.worth(0), 750);
  }

  static void promise02_anEmptiedTapeTakesAllAgain() {
    PrimeCoins x = fed(35);
    x.town(700);
    for (int i = 1; i <= 35; i++) {
      due("feed " + i, x.feed(0, 0, 0, 0, 0), 20 * i);
    }
    due("no more", x.feed(0, 0, 0, 0, 0), NONE);
  }

  // ---- 3: town

  static void promise03_nOneBelowNothing() {
    refused(IAE, x -> x.town(-1));
    refused(IAE, Edge::fresh, x -> x.town(-1));
  }

  static void promise03_nNothing() {
    PrimeCoins x = rich();
    due("of nothing", x.town(0), -12);
    due("the tape is empty then", x.count(7), 0);
  }

  static void promise03_nAllOfTheTape() {
    PrimeCoins x = rich();
    due("bytes", x.count(7), 20);
    due("all", x.town(20), 2);
    due("worth", x.worth(0), 49);
  }

  static void promise03_nOneAboveTheTape() {
    refused(IAE, x -> x.town(21));
    refused(IAE, Edge::fresh, x -> x.town(1));
  }

  static void promise03_nFarOut() {
    for (int n : FAR) {
      refused(IAE, x -> x.town(n));
    }
  }

  static void promise03_theFirstBytesAlone() {
    PrimeCoins x = rich();
    due("seven bytes", x.town(7), 1);
    due("nobody", x.count(2), 0);
    due("the rest is gone", x.count(7), 0);
    PrimeCoins y = rich();
    due("six bytes", y.town(6), -12);
    due("the end is there", y.fault(1), 6);
  }

  static void promise03_theTapeIsEmptyBehindAFault() {
    PrimeCoins x = rich();
    due("a fault", x.town(3), -12);
    due("bytes", x.count(7), 0);
    Check.throwsDue("no more", IAE, () -> x.town(1));
  }

  static void promise03_allElseStaysBehindAFault() {
    String[] faulty = {"", "mint", "mint 7;purse 7 !", "mint 7;purse 7 mint", "mint 7;purse 5;", "mint 7;purse 7 times 9 7;"};
    for (String text : faulty) {
      PrimeCoins x = rich();
      x.town(0);
      due("a fault", Check.town(x, text) < 0, true);
      due("all else", kept(x), kept(rich()));
    }
  }

  static void promise03_noDebtsThen() {
    PrimeCoins x = rich();
    x.town(0);
    due("lines", Check.town(x, "mint 2;purse;purse;purse;"), 4);
    due("debts", x.count(6), 0);
    due("owed", x.owed(0, 1) * x.owed(1, 0) * x.owed(2, 1) * x.owed(0, 2), 1);
  }

  static void promise03_anEmptyTreasuryThen() {
    PrimeCoins x = rich();
    due("one is there", x.treasury(5), 1);
    x.town(0);
    Check.town(x, "mint 5 2 3;purse;");
    due("treasury", x.count(5), 0);
    due("of the coin", x.treasury(5), 0);
    due("readOut", x.readOut(7), 1);
  }

  static void promise03_nothingOfTheFormerTown() {
    PrimeCoins x = rich();
    x.town(0);
    due("lines", Check.town(x, "mint 13;"), 1);
    due("coins", x.count(1), 1);
    due("people", x.count(2), 0);
    due("changes", x.count(3), 0);
    due("coins in purses", x.count(4), 0);
    due("coin", x.coin(0), 13);
  }

  /** Whatever was judged, faulty or restored ahead of it. */
  static void promise03_allOfANewTownIsItsText() {
    String text = "mint 2 3;purse 2;purse 3;purse;change 2 into 3;change 3 into 2;";
    PrimeCoins x = rich();
    x.judge(0, 0);
    x.town(0);
    due("a fault", Check.town(x, "mint 5 2 3;purse 5;change 2 2 into 3 3;change 5 into 3 3;purse 7;"), -13);
    x.judge(0, 2);
    due("lines", Check.town(x, text), 6);
    due("all of it", townOf(x), townOf(of(text)));
    restore(x, 1);
    due("lines", Check.town(x, text), 6);
    due("all of it", townOf(x), townOf(of(text)));
  }

  static void promise03_traysAndImagesStay() {
    PrimeCoins x = rich();
    due("lines", x.town(20), 2);
    due("the empty tray", x.judge(2, 0), NONE);
    due("the deals", x.judge(0, 1), 1);
    Check.throwsDue("no tray", ISE, () -> x.judge(3, 0));
    due("image 1", restore(x, 1), "restored");
    due("worth", x.worth(0), 60);
    Check.throwsDue("image 0", ISE, () -> restore(x, 0));
  }

  static void promise03_mintCountsAsALine() {
    lines("mint 2;", 1);
    lines("mint 2;purse;", 2);
    lines("mint 2;change 2 into 2;", 2);
    lines("mint 2;" + "purse;".repeat(5) + "change 2 into 2;".repeat(6), 12);
  }

  static void promise03_sevenHundredBytes() {
    String text = "mint 2;" + blanks(687) + "purse;";
    lines(text, 2);
    PrimeCoins x = fresh();
    Check.feed(x, text);
    due("one byte less", x.town(699), -12);
    due("its end", x.fault(1), 699);
  }

  // ---- 4: fault

  static void promise04_atFirst() {
    due("fault", fresh().fault(0), 0);
    due("place", fresh().fault(1), NONE);
  }

  static void promise04_withoutAgain() {
    PrimeCoins x = rich();
    due("a fault", x.fault(0), 3);
    due("its place", x.fault(1), 5);
    x.town(20);
    due("none", x.fault(0), 0);
    due("no place", x.fault(1), NONE);
  }

  static void promise04_ofTheLatestThatThrewNothing() {
    PrimeCoins x = rich();
    Check.throwsDue("town", IAE, () -> x.town(21));
    due("fault", x.fault(0), 3);
    due("place", x.fault(1), 5);
    x.town(20);
    Check.throwsDue("town", IAE, () -> x.town(-1));
    due("fault", x.fault(0), 0);
    due("place", x.fault(1), NONE);
  }

  static void promise04_others() {
    int[] others = {-1, 2, Integer.MIN_VALUE, Integer.MAX_VALUE};
    for (int what : others) {
      due("fault " + what, rich().fault(what), NONE);
      due("fault " + what, fresh().fault(what), NONE);
    }
  }

  // ---- 4: the text, what is a TOKEN

  static void promise04_noTokenBeginsSo() {
    String signs = "\0\t\u000b\f\r\u001f!\"#$%&'()*+,-./:<=>?@AMZ[\\]^_`{|}~\u007f\u0080\u00a0\u00df\u00e4\u00ff";
    for (int i = 0; i < signs.length(); i++) {
      fault("mint 2;" + signs.charAt(i), 1, 7);
      fault(signs.charAt(i) + "mint 2;", 1, 0);
      fault("mint 2" + signs.charAt(i) + ";", 1, 6);
    }
  }

  static void promise04_blanksAre10And32() {
    lines(" \nmint\n2 \n;\n \npurse\n\n2  ;", 2);
    fault("mint\t2;", 1, 4);
    fault("mint\r2;", 1, 4);
  }

  static void promise04_threeDigits() {
    lines("mint 002 013;", 1);
    lines("mint 2;purse 002 times 009;", 2);
    fault("mint 100;", 3, 5);
    fault("mint 999;", 3, 5);
  }

  static void promise04_fourDigitsAtTheirFirst() {
    fault("mint 1000;", 1, 5);
    fault("mint 0002;", 1, 5);
    fault("mint 2 3 0005;", 1, 9);
    fault("mint 2;purse 2 times 0001;", 1, 21);
    fault("mint 99999999999999999999999999999999;", 1, 5);
    fault("mint 4294967298;", 1, 5);
    fault("mint " + "0".repeat(694) + "2", 1, 5);
  }

  static void promise04_tokensGoAsLongAsTheyGo() {
    lines("mint2 3;purse2times3 3;change2into3;", 3);
    fault("mint 23 5;purse 2 3;", 3, 16);
    fault("mintx 2;", 2, 0);
    fault("purse2", 2, 0);
    fault("mint 2;pursetimes 2;", 2, 7);
    fault("mint 2;purse 2 timestimes 2;", 2, 15);
  }

  static void promise04_wordsThatAreNone() {
    fault("a", 2, 0);
    fault("mint 2;z", 2, 7);
    fault("mint 2;min 3;", 2, 7);
    fault("mint 2;purs;", 2, 7);
    fault("mint 2;change 2 int 2;", 2, 16);
    String[] like = {"nint", "mjnt", "mins", "mintt", "times", "into", "n"};
    for (String word : like) {
      fault(word + " 2;", 2, 0);
    }
    String[] others = {"nurse", "purge", "pursd", "purses", "dhange", "changed", "changf", "times", "into"};
    for (String word : others) {
      fault("mint 2;" + word + " 2 into 2;", 2, 7);
    }
    String[] behind = {"uimes", "timed", "time", "timess", "jnto", "intp", "intos", "int"};
    for (String word : behind) {
      fault("mint 2;purse 2 " + word + " 2;", 2, 15);
      fault("mint 2;change 2 " + word + " 2;", 2, 16);
    }
  }

  // ---- 4: the text, what can't stand there

  static void promise04_aTextOfNoToken() {
    fault("", 2, 0);
    fault(" ", 2, 1);
    fault("\n \n", 2, 3);
    fault(blanks(700), 2, 700);
  }

  static void promise04_theEndIsTheTextsLength() {
    fault("mint", 2, 4);
    fault("mint ", 2, 5);
    fault("mint 2", 2, 6);
    fault("mint 2 \n ", 2, 9);
    fault("mint 2;purse", 2, 12);
    fault("mint 2;purse 2", 2, 14);
    fault("mint 2;purse 2 times", 2, 20);
    fault("mint 2;purse 2 times 2", 2, 22);
    fault("mint 2;change", 2, 13);
    fault("mint 2;change 2", 2, 15);
    fault("mint 2;change 2 into", 2, 20);
    fault("mint 2;change 2 into 2", 2, 22);
  }

  static void promise04_mintComesFirstAndOnce() {
    fault("purse;mint 2;", 2, 0);
    fault("change 2 into 2;", 2, 0);
    fault(";", 2, 0);
    fault("2;", 2, 0);
    fault("mint 2;mint 3;", 2, 7);
  }

  static void promise04_mintHasOneAtLeast() {
    fault("mint;", 2, 4);
    fault("mint ;", 2, 5);
    lines("mint 2;", 1);
  }

  static void promise04_aPurseMayHaveNone() {
    lines("mint 2;purse;", 2);
    due("its coins", of("mint 2;purse;").purse(0, 0), 0);
  }

  static void promise04_eachSideHasOneAtLeast() {
    fault("mint 2;change into 2;", 2, 14);
    fault("mint 2;change 2 into;", 2, 20);
    fault("mint 2;change;", 2, 13);
    lines("mint 2;change 2 into 2;", 2);
  }

  static void promise04_timesStandsBehindACoinOnce() {
    fault("mint 2;purse times 2;", 2, 13);
    fault("mint 2;purse 2 times times 2;", 2, 21);
    fault("mint 2;purse 2 times 2 times 2;", 2, 23);
    fault("mint 2;purse 2 times;", 2, 20);
    fault("mint 2 times 2;", 2, 7);
    fault("mint 2;change 2 times 2 into 2;", 2, 16);
    fault("mint 2;change 2 into 2 times 2;", 2, 23);
  }

  static void promise04_intoStandsOnce() {
    fault("mint 2;change 2 into into 2;", 2, 21);
    fault("mint 2;change 2 into 2 into 2;", 2, 23);
    fault("mint 2;purse 2 into 2;", 2, 15);
  }

  static void promise04_aSignEndsEachLine() {
    fault("mint 2 purse;", 2, 7);
    fault("mint 2;purse 2 purse;", 2, 15);
    fault("mint 2;purse 2 purse 3;", 2, 15);
    fault("mint 2;change 2 into 2 change 3;", 2, 23);
    fault("mint 2 change 3;", 2, 7);
    fault("mint 2;purse change 2 into 2;", 2, 13);
    fault("mint 2;change 2 into 2 purse;", 2, 23);
    fault("mint 2;;", 2, 7);
    fault("mint 2;purse;;", 2, 13);
  }

  // ---- 4: the text, N out of bounds

  static void promise04_primesFrom2To97() {
    fault("mint 0;", 3, 5);
    fault("mint 1;", 3, 5);
    lines("mint 2;", 1);
    lines("mint 97;", 1);
    fault("mint 98;", 3, 5);
    fault("mint 101;", 3, 5);
    fault("mint 997;", 3, 5);
  }

  static void promise04_noPrime() {
    int many = 0;
    for (int n = 0; n <= 999; n++) {
      if (n <= 97 && java.math.BigInteger.valueOf(n).isProbablePrime(50)) {
        lines("mint " + n + ";", 1);
        many++;
      } else {
        fault("mint " + n + ";", 3, 5);
      }
    }
    due("primes", many, 25);
  }

  static void promise04_struckAlready() {
    fault("mint 2 2;", 3, 7);
    fault("mint 2 3 5 3;", 3, 11);
    fault("mint 2 02;", 3, 7);
  }

  static void promise04_noCoin() {
    fault("mint 2;purse 3;", 3, 13);
    fault("mint 2;purse 2 0;", 3, 15);
    fault("mint 2;purse 2 1;", 3, 15);
    fault("mint 2;purse 2 times 2 5;", 3, 23);
    fault("mint 2;change 3 into 2;", 3, 14);
    fault("mint 2;change 2 into 3;", 3, 21);
    fault("mint 2;change 2 into 2 0;", 3, 23);
  }

  static void promise04_times1To9() {
    fault("mint 2;purse 2 times 0;", 3, 21);
    lines("mint 2;purse 2 times 1;", 2);
    due("once", of("mint 2;purse 2 times 1;").worth(0), 2);
    lines("mint 2;purse 2 times 9;", 2);
    due("nine times", of("mint 2;purse 2 times 9;").worth(0), 512);
    fault("mint 2;purse 2 times 10;", 3, 21);
    fault("mint 2;purse 2 times 999;", 3, 21);
    due("once without", of("mint 2;purse 2;").worth(0), 2);
  }

  // ---- 4: the text, too many

  static void promise04_eightPrimes() {
    lines("mint 2 3 5 7 11 13 17 19;", 1);
    due("the eighth", of("mint 2 3 5 7 11 13 17 19;").coin(7), 19);
    fault("mint 2 3 5 7 11 13 17 19 23;", 4, 25);
    fault("mint 2 3 5 7 11 13 17 19 23 29 4;", 4, 25);
  }

  static void promise04_fivePeople() {
    lines("mint 2;purse;purse;purse;purse;purse;", 6);
    fault("mint 2;purse;purse;purse;purse;purse;purse;", 4, 37);
    fault("mint 2;purse;purse;purse;change 2 into 2;purse;purse;purse 7", 4, 53);
  }

  static void promise04_sixChanges() {
    String six = "mint 2;" + "change 2 into 2;".repeat(6);
    lines(six, 7);
    lines(six + "purse;", 8);
    fault(six + "change 2 into 2;", 4, 103);
    fault(six + "purse;change !", 4, 109);
  }

  static void promise04_nineCoinsOneByOne() {
    lines("mint 2;purse 2 2 2 2 2 2 2 2 2;", 2);
    fault("mint 2;purse 2 2 2 2 2 2 2 2 2 2;", 4, 31);
  }

  static void promise04_nineCoinsByTimes() {
    lines("mint 2 3;purse 2 times 4 3 times 5;", 2);
    fault("mint 2 3;purse 2 times 5 3 times 5;", 4, 33);
    lines("mint 2 3;purse 2 times 8 3;", 2);
    lines("mint 2 3;purse 2 times 8 3 times 1;", 2);
    fault("mint 2 3;purse 2 times 8 3 times 2;", 4, 33);
    fault("mint 2 3;purse 2 times 9 3 times 1;", 4, 25);
    fault("mint 2 3;purse 2 times 9 3;", 4, 25);
    lines("mint 2 3;purse 2 3 times 8;", 2);
    fault("mint 2 3;purse 2 3 times 9;", 4, 25);
  }

  static void promise04_nineCoinsOfEachPurse() {
    lines("mint 2;purse 2 times 9;purse 2 times 9;purse 2 times 9;purse 2 times 9;purse 2 times 9;", 6);
    fault("mint 2;purse 2 times 9;purse 2 times 9 2;", 4, 39);
  }

  static void promise04_threeCoinsOfTheFirstSide() {
    lines("mint 2;change 2 2 2 into 2;", 2);
    fault("mint 2;change 2 2 2 2 into 2;", 4, 20);
  }

  static void promise04_threeCoinsOfTheSecondSide() {
    lines("mint 2;change 2 into 2 2 2;", 2);
    fault("mint 2;change 2 into 2 2 2 2;", 4, 27);
    lines("mint 2;change 2 2 2 into 2 2 2;", 2);
  }

  // ---- 4: the text, which FAULT

  static void promise04_ofOneTokenTheLeastKind() {
    fault("mint 2 3 5 7 11 13 17 19 9;", 3, 25);
    fault("mint 2 3 5 7 11 13 17 19 2;", 3, 25);
    fault("mint 2 3 5 7 11 13 17 19 1009;", 1, 25);
    fault("mint 2;purse 2 times 9 3;", 3, 23);
    fault("mint 2;purse 2 2 times 10;", 3, 23);
    fault("mint 2;purse 2 times 9 0002;", 1, 23);
    fault("mint 2;change 2 2 2 3 into 2;", 3, 20);
    fault("mint 2;change 2 2 2 0002 into 2;", 1, 20);
    fault("mint 2;0002", 1, 7);
  }

  static void promise04_theFirstAlongTheText() {
    fault("mint 2;purse 2 times 9 2 3 purse !", 4, 23);
    fault("mint 4 purse !", 3, 5);
    fault("purse !", 2, 0);
    fault("mint 2;!purse 3;", 1, 7);
    fault("mint 2 3;purse 5;purse !", 3, 15);
  }

  // ---- 5 to 9

  static void promise05_theFirstAndTheLast() {
    PrimeCoins x = of("mint 97 2 3;");
    due("coin 0", x.coin(0), 97);
    due("coin 2", x.coin(2), 3);
  }

  static void promise05_noSuchCoin() {
    int[] none = {-1, 3, 8, Integer.MIN_VALUE, Integer.MAX_VALUE};
    for (int k : none) {
      refused(NSE, x -> x.coin(k));
    }
    refused(NSE, () -> of("mint 2 3 5 7 11 13 17 19;"), x -> x.coin(8));
  }

  static void promise06_noneAndNine() {
    PrimeCoins x = of("mint 2 3;purse 2 times 9;purse;");
    due("nine", x.has(0, 2), 9);
    due("none of it", x.has(0, 3), 0);
    due("none", x.has(1, 2), 0);
  }

  static void promise06_noCoin() {
    int[] none = {0, 1, -2, 7, 10, 4, Integer.MIN_VALUE, Integer.MAX_VALUE};
    for (int prime : none) {
      due("has " + prime, rich().has(0, prime), 0);
    }
  }

  static void promise06_noSuchPerson() {
    due("the last", rich().has(2, 3), 1);
    int[] none = {-1, 3, 5, Integer.MIN_VALUE, Integer.MAX_VALUE};
    for (int p : none) {
      refused(NSE, x -> x.has(p, 2));
      refused(NSE, x -> x.has(p, 7));
    }
  }

  static void promise07_anEmptyPurse() {
    PrimeCoins x = of("mint 2 3;purse;");
    due("coins", x.purse(0, 0), 0);
    due("unlike ones", x.purse(0, 1), 0);
    due("the greatest", x.purse(0, 2), 1);
    due("the least", x.purse(0, 3), 1);
  }

  static void promise07_aFullPurse() {
    PrimeCoins x = of("mint 2 97 3 5 7 11 13 17;purse 17 13 11 7 5 3 97 2 97;");
    due("coins", x.purse(0, 0), 9);
    due("unlike ones", x.purse(0, 1), 8);
    due("the greatest", x.purse(0, 2), 97);
    due("the least", x.purse(0, 3), 2);
  }

  static void promise07_oneCoin() {
    PrimeCoins x = of("mint 2 3 5;purse 3;");
    due("coins", x.purse(0, 0), 1);
    due("unlike ones", x.purse(0, 1), 1);
    due("the greatest", x.purse(0, 2), 3);
    due("the least", x.purse(0, 3), 3);
  }

  static void promise07_anotherWhat() {
    int[] others = {-1, 4, Integer.MIN_VALUE, Integer.MAX_VALUE};
    for (int what : others) {
      refused(IAE, x -> x.purse(0, what));
    }
  }

  static void promise07_noSuchPersonFirst() {
    refused(NSE, x -> x.purse(-1, 0));
    refused(NSE, x -> x.purse(3, 0));
    refused(NSE, x -> x.purse(3, 4));
    refused(NSE, x -> x.purse(-1, -1));
  }

  static void promise08_ofNone() {
    due("worth", of("mint 2;purse;").worth(0), 1);
  }

  static void promise08_theGreatest() {
    due("worth", of("mint 97;purse 97 times 9;").worth(0), 760231058654565217L);
  }

  static void promise08_noSuchPerson() {
    due("the last", rich().worth(2), 3);
    int[] none = {-1, 3, Integer.MIN_VALUE, Integer.MAX_VALUE};
    for (int p : none) {
      refused(NSE, x -> x.worth(p));
    }
    refused(NSE, () -> of("mint 2;purse;purse;purse;purse;purse;"), x -> x.worth(5));
  }

  static void promise09_oneCoinAndThree() {
    PrimeCoins x = of("mint 97 2;change 97 97 97 into 2;");
    due("three", x.change(0, 0), 912673);
    due("one", x.change(0, 1), 2);
  }

  static void promise09_noSuchChange() {
    due("the last", rich().change(1, 1), 8);
    int[] none = {-1, 2, Integer.MIN_VALUE, Integer.MAX_VALUE};
    for (int k : none) {
      refused(NSE, x -> x.change(k, 0));
      refused(NSE, x -> x.change(k, 2));
    }
    refused(NSE, () -> of("mint 2;" + "change 2 into 2;".repeat(6)), x -> x.change(6, 0));
  }

  static void promise09_anotherWhat() {
    int[] others = {-1, 2, Integer.MIN_VALUE, Integer.MAX_VALUE};
    for (int what : others) {
      refused(IAE, x -> x.change(0, what));
    }
  }
}
