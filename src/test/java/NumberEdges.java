/** Edges of promises 37 to 44: numbers taken apart. */
final class NumberEdges extends Edge {
  private static final int BILLION = 1000000000;
  private static final int PRIME = 999999937;
  private static final int[] OUT = {0, -1, BILLION + 1, Integer.MIN_VALUE, Integer.MAX_VALUE};
  private static final int[] NO_WHAT = {-1, 2, Integer.MIN_VALUE, Integer.MAX_VALUE};
  private static final int[] NO_PRIME = {0, 1, -1, -2, 4, 9, 91, 95, 96, 98, 99, 101, 103, Integer.MIN_VALUE,
      Integer.MAX_VALUE};

  private NumberEdges() {
  }

  // ---- 37: trial

  private static void trial(int n, int factor, int steps) {
    due("factor of " + n, fresh().trial(n, 0), factor);
    due("steps of " + n, fresh().trial(n, 1), steps);
  }

  static void promise37_of1() {
    trial(1, 1, 0);
  }

  static void promise37_ofPrimes() {
    trial(2, 2, 1);
    trial(3, 3, 2);
    trial(97, 97, 96);
    trial(PRIME, PRIME, PRIME - 1);
  }

  static void promise37_ofSquares() {
    trial(4, 2, 1);
    trial(9, 3, 2);
    trial(25, 5, 4);
    trial(31607 * 31607, 31607, 31606);
  }

  static void promise37_theGreatest() {
    trial(BILLION, 2, 1);
    trial(BILLION - 1, 3, 2);
  }

  static void promise37_theNumber() {
    for (int n : OUT) {
      refused(IAE, x -> x.trial(n, 0));
      refused(IAE, x -> x.trial(n, 2));
    }
  }

  static void promise37_anotherWhat() {
    for (int what : NO_WHAT) {
      refused(IAE, x -> x.trial(1, what));
      refused(IAE, x -> x.trial(6, what));
    }
  }

  // ---- 38: squares

  private static void squares(int n, int factor, int steps) {
    due("factor of " + n, fresh().squares(n, 0), factor);
    due("steps of " + n, fresh().squares(n, 1), steps);
  }

  static void promise38_theLeast() {
    squares(3, 1, 1);
    squares(5, 1, 1);
    squares(7, 1, 2);
  }

  static void promise38_aSquareAtOnce() {
    squares(9, 3, 1);
    squares(25, 5, 1);
    squares(998001, 999, 1);
    squares(994009, 997, 1);
  }

  static void promise38_oneBehindASquareAndOneAhead() {
    squares(11, 1, 3);
    squares(27, 3, 1);
    squares(99, 9, 1);
    squares(101, 1, 41);
    squares(45, 5, 1);
  }

  static void promise38_theGreatest() {
    squares(999999, 999, 1);
    // a prime: a ends at half of it and 1, from 1000 on
    squares(999983, 1, 499992 - 1000 + 1);
    // 9 by 111109
    squares(999981, 9, (9 + 111109) / 2 - 1000 + 1);
  }

  static void promise38_theNumber() {
    int[] wrong = {1, 2, 4, 0, -1, -3, -9, 999998, 1000000, 1000001, 1000003, Integer.MIN_VALUE, Integer.MAX_VALUE};
    for (int n : wrong) {
      refused(IAE, x -> x.squares(n, 0));
      refused(IAE, x -> x.squares(n, 2));
    }
  }

  static void promise38_anotherWhat() {
    for (int what : NO_WHAT) {
      refused(IAE, x -> x.squares(15, what));
    }
  }

  // ---- 39: rounds

  private static void rounds(int n, int c, int factor, int steps) {
    due("factor of " + n + " with " + c, fresh().rounds(n, c, 0), factor);
    due("steps of " + n + " with " + c, fresh().rounds(n, c, 1), steps);
  }

  static void promise39_theLeast() {
    rounds(2, 0, 2, 1);
    rounds(2, 1, 2, 2);
    rounds(3, 0, 3, 1);
    rounds(3, 99, 3, 1);
  }

  static void promise39_itMayBeTheNumberItself() {
    rounds(4, 0, 4, 1);
    // x is 5, 1, 2, y is 1, 5, 2
    rounds(25, 1, 25, 3);
    rounds(7, 1, 7, 1);
  }

  static void promise39_theAdd() {
    // 15: with 0 x is 4, y 1: 3; with 99 x is 103 modulo 15, 13, y 169 and 99, 13.
    rounds(15, 0, 3, 1);
    rounds(15, 99, 15, 1);
    int[] wrong = {-1, 100, Integer.MIN_VALUE, Integer.MAX_VALUE};
    for (int c : wrong) {
      refused(IAE, x -> x.rounds(15, c, 0));
    }
  }

  static void promise39_twoThousandSteps() {
    rounds(999950383, 4, 999950383, 2000);
  }

  static void promise39_notWithinTwoThousand() {
    rounds(999949199, 39, NONE, NONE);
  }

  static void promise39_theGreatest() {
    rounds(BILLION, 0, 4, 1);
    // x is 103, y 10708: they differ by 5 times 2121.
    rounds(BILLION, 99, 5, 1);
  }

  static void promise39_theNumber() {
    int[] wrong = {1, 0, -1, -2, BILLION + 1, Integer.MIN_VALUE, Integer.MAX_VALUE};
    for (int n : wrong) {
      refused(IAE, x -> x.rounds(n, 1, 0));
    }
  }

  static void promise39_anotherWhat() {
    for (int what : NO_WHAT) {
      refused(IAE, x -> x.rounds(15, 1, what));
    }
  }

  // ---- 40: factor

  private static void factors(int n, int... due) {
    PrimeCoins x = fresh();
    due("how many of " + n, x.factor(n, NONE), due.length);
    for (int k = 0; k < due.length; k++) {
      due("factor " + k + " of " + n, x.factor(n, k), due[k]);
    }
    due("not so many of " + n, x.factor(n, due.length), NONE);
    due("far behind", x.factor(n, Integer.MAX_VALUE), NONE);
    due("below", x.factor(n, -2), NONE);
    due("far below", x.factor(n, Integer.MIN_VALUE), NONE);
  }

  static void promise40_of1() {
    factors(1);
  }

  static void promise40_ofPrimes() {
    factors(2, 2);
    factors(3, 3);
    factors(PRIME, PRIME);
  }

  static void promise40_theMost() {
    int[] twos = new int[29];
    java.util.Arrays.fill(twos, 2);
    factors(1 << 29, twos);
  }

  static void promise40_theGreatest() {
    factors(BILLION, 2, 2, 2, 2, 2, 2, 2, 2, 2, 5, 5, 5, 5, 5, 5, 5, 5, 5);
    factors(31607 * 31607, 31607, 31607);
    factors(2 * 499999993, 2, 499999993);
  }

  static void promise40_theNumber() {
    for (int n : OUT) {
      refused(IAE, x -> x.factor(n, 0));
      refused(IAE, x -> x.factor(n, NONE));
    }
  }

  // ---- 41, 42

  static void promise41_bounds() {
    PrimeCoins x = fresh();
    due("to 1", x.smooth(1, 2), 1);
    due("to 1", x.smooth(1, 97), 1);
    due("to 5000 by 2", x.smooth(5000, 2), 13);
    int byHand = 0;
    for (int n = 1; n <= 5000; n++) {
      int left = n;
      for (int d = 2; d <= 97; d++) {
        while (left % d == 0) {
          left /= d;
        }
      }
      byHand += left == 1 ? 1 : 0;
    }
    due("to 5000 by 97", x.smooth(5000, 97), byHand);
    int[] wrong = {0, -1, 5001, Integer.MIN_VALUE, Integer.MAX_VALUE};
    for (int n : wrong) {
      refused(IAE, y -> y.smooth(n, 2));
      refused(IAE, y -> y.smooth(n, 4));
    }
  }

  static void promise41_nBothToo() {
    PrimeCoins x = fresh();
    due("to 4095", x.smooth(4095, 2), 12);
    due("to 4096", x.smooth(4096, 2), 13);
    due("no factor above it", x.smooth(96, 89), 96);
    due("97", x.smooth(97, 89), 96);
    due("97 by itself", x.smooth(97, 97), 97);
    due("to 100", x.smooth(100, 97), 100);
    due("to 101", x.smooth(101, 97), 100);
  }

  static void promise41_noPrimeFrom2To97() {
    for (int prime : NO_PRIME) {
      refused(IAE, x -> x.smooth(1, prime));
    }
  }

  static void promise42_bounds() {
    PrimeCoins x = fresh();
    int[][] due = {{1, 0}, {2, 1}, {3, 2}, {4, 2}, {96, 24}, {97, 25}, {4998, 668}, {4999, 669}, {5000, 669}};
    for (int[] pair : due) {
      due("to " + pair[0], x.primesTo(pair[0]), pair[1]);
    }
    int[] wrong = {0, -1, 5001, Integer.MIN_VALUE, Integer.MAX_VALUE};
    for (int n : wrong) {
      refused(IAE, y -> y.primesTo(n));
    }
  }

  // ---- 43, 44

  static void promise43_theNumber() {
    int[] wrong = {1, 0, -1, -2, BILLION + 1, Integer.MIN_VALUE, Integer.MAX_VALUE};
    for (int n : wrong) {
      refused(IAE, x -> x.witness(n));
    }
    due("the least", fresh().witness(2), NONE);
    due("the greatest", fresh().witness(BILLION), 2);
    due("a great prime", fresh().witness(PRIME), NONE);
  }

  static void promise43_belowN() {
    due("none below 2", fresh().witness(2), NONE);
    due("2 below 3", fresh().witness(3), NONE);
    due("2 below 4", fresh().witness(4), 2);
    due("5", fresh().witness(5), NONE);
    due("61", fresh().witness(61), NONE);
  }

  /** Carmichael's numbers: their least factor is the least witness. */
  static void promise43_from2To60() {
    due("3 of 561", fresh().witness(561), 3);
    due("59", fresh().witness(178837201), 59);
    due("61 is too far", fresh().witness(6189121), NONE);
  }

  static void promise44_nBounds() {
    int[] wrong = {1, 0, -1, 10001, Integer.MIN_VALUE, Integer.MAX_VALUE};
    for (int n : wrong) {
      refused(IAE, x -> x.order(1, n));
      refused(IAE, x -> x.order(0, n));
    }
    due("the least", fresh().order(1, 2), 1);
    due("the greatest", fresh().order(9999, 10000), 2);
  }

  static void promise44_aBounds() {
    int[] wrong = {0, -1, 7, 8, Integer.MIN_VALUE, Integer.MAX_VALUE};
    for (int a : wrong) {
      refused(IAE, x -> x.order(a, 7));
    }
    due("1", fresh().order(1, 7), 1);
    due("n less 1", fresh().order(6, 7), 2);
    refused(IAE, x -> x.order(10000, 10000));
    refused(IAE, x -> x.order(2, 2));
  }

  static void promise44_none() {
    due("a factor in common", fresh().order(2, 10000), NONE);
    due("of 4", fresh().order(2, 4), NONE);
    due("of 9999", fresh().order(9, 9999), NONE);
  }

  static void promise44_theGreatestOrder() {
    due("all but one", fresh().order(11, 9973), 9972);
    due("of 7", fresh().order(3, 7), 6);
  }
}
