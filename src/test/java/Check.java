import java.nio.charset.StandardCharsets;

/** What the tests share: answers that are due, and texts for the tape. */
final class Check {
  interface Call {
    Object ask();
  }

  private static int asked = 0;
  private static int wrong = 0;
  private static String name = "";

  private Check() {
  }

  /** Ahead of what is told from now on. */
  static void name(String test) {
    name = test.isEmpty() ? "" : test + ": ";
  }

  static int asked() {
    return asked;
  }

  static void due(String what, Object got, Object want) {
    asked++;
    if (!String.valueOf(got).equals(String.valueOf(want))) {
      wrong++;
      System.out.println(name + what + " answered " + got + ", due is " + want);
    }
  }

  static void throwsDue(String what, Class<? extends Exception> want, Call call) {
    due(what, answer(call), "throws." + want.getSimpleName());
  }

  /** An answer, or the name of what was thrown. */
  static String answer(Call call) {
    try {
      return String.valueOf(call.ask());
    } catch (RuntimeException e) {
      return "throws." + e.getClass().getSimpleName();
    }
  }

  /** The text comes onto the tape, with blanks behind it to a whole feed. */
  static int feed(PrimeCoins x, String text) {
    byte[] bytes = text.getBytes(StandardCharsets.ISO_8859_1);
    for (int i = 0; i < bytes.length; i += 20) {
      int[] five = new int[5];
      for (int k = 0; k < 20; k++) {
        int sign = i + k < bytes.length ? bytes[i + k] & 255 : ' ';
        five[k / 4] = five[k / 4] << 8 | sign;
      }
      x.feed(five[0], five[1], five[2], five[3], five[4]);
    }
    return bytes.length;
  }

  static int town(PrimeCoins x, String text) {
    return x.town(feed(x, text));
  }

  static PrimeCoins of(String text) {
    PrimeCoins x = new PrimeCoins();
    int lines = town(x, text);
    if (lines < 1) {
      due("the text " + text, lines, "a town");
    }
    return x;
  }

  static void row(PrimeCoins x, int tray, int sort, long... numbers) {
    x.tray(tray, sort, numbers.length);
    for (int i = 0; i < numbers.length; i++) {
      x.write(tray, i, numbers[i]);
    }
  }

  static void close(String name) {
    System.out.println(name + ": " + asked + " answers, " + wrong + " not as due");
    if (wrong != 0 || asked == 0) {
      System.exit(1);
    }
  }
}
