/** Counts and tells the answers that are not the ones that are due. */
final class Due {
  static final int BEYOND = -1000000001;
  static final int NONE = -1000000002;
  static final int STATE = -1000000003;
  static final int FULL = -1000000004;
  static final int KIND = -1000000005;

  private static int wrong = 0;
  private static int asked = 0;

  private Due() {
  }

  static void is(String what, long got, long want) {
    asked++;
    if (got != want) {
      wrong++;
      System.out.println(what + " answered " + got + ", due is " + want);
    }
  }

  static void yes(String what, boolean got) {
    is(what, got ? 1 : 0, 1);
  }

  static void end() {
    System.out.println(asked + " answers, " + wrong + " not as due");
    if (wrong != 0 || asked == 0) {
      System.exit(1);
    }
  }

  /** Puts a text on THE TAPE, as many bytes a word as it takes. */
  static void feed(DrownedBell x, String text) {
    for (int at = 0; at < text.length(); at += 8) {
      int n = Math.min(8, text.length() - at);
      long word = 0;
      for (int i = n - 1; i >= 0; i--) {
        word = word << 8 | text.charAt(at + i);
      }
      x.feed(word, n);
    }
  }

  static int text(DrownedBell x, int use, String text) {
    feed(x, text);
    return x.text(use);
  }

  /** A new object with FLOW 18 in every HOUR, by STREAM 1: no SILT comes with it. */
  static DrownedBell wetOne() {
    DrownedBell x = new DrownedBell();
    for (int hour = 0; hour < 24; hour++) {
      x.rain(1, hour, 9);
    }
    return x;
  }

  /** LEVEL stays as it is: what flows in goes out. */
  static DrownedBell steadyOne() {
    DrownedBell x = wetOne();
    text(x, 1, "f");
    return x;
  }
}
