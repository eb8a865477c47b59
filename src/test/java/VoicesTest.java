/** Promises 27 to 29: draws, voices. */
public final class VoicesTest {
  private VoicesTest() {
  }

  public static void main(String[] args) {
    seed();
    voices();
    voicesGoRound();
    allGoRound();
    traceOfTheLatest();
    voiceWrong();
    Due.end();
  }

  private static void seed() {
    DrownedBell x = new DrownedBell();
    Due.is("27: first", x.seed(6), 1);
    Due.is("27: was", x.seed(Integer.MIN_VALUE), 6);
    Due.is("27: least", x.seed(-1000000001), Integer.MIN_VALUE);
    Due.is("27: no error", x.told(1), 0);
    Due.is("27: counted", x.count(7), -1000000001);
    x.seed(1770082073);
    x.loose(1);
    Due.is("27: draws go by it", x.count(7), thirdDrawOf(1770082073));
  }

  private static int thirdDrawOf(int z) {
    for (int i = 0; i < 3; i++) {
      z = (int) (z * 1103515245L + 12345L);
    }
    return z;
  }

  private static void voice(DrownedBell x, int fisher, int act, int want, int... trace) {
    String what = "28: fisher " + fisher + " act " + act;
    Due.is(what, x.voice(fisher, act, 5), want);
    Due.is(what + " bodies", x.count(6), trace.length);
    for (int i = 0; i < trace.length; i++) {
      Due.is("29: trace " + i + " of fisher " + fisher + " act " + act, x.trace(i), trace[i]);
    }
    Due.is("29: behind the last", x.trace(trace.length), Due.NONE);
    Due.is("29: ahead of the first", x.trace(-1), Due.NONE);
    Due.is("29: far", x.trace(40), Due.NONE);
  }

  private static void voices() {
    DrownedBell x = new DrownedBell();
    for (int i = 0; i < 7; i++) {
      x.fisher(10 * i + i + 1, 0);
    }
    voice(x, 0, 0, 5, 10);
    voice(x, 0, 1, 10, 11, 10);
    voice(x, 0, 2, 4, 12);
    voice(x, 0, 3, 14, 13, 11, 10, 12);
    voice(x, 1, 0, 6, 10);
    voice(x, 1, 1, 13, 20, 11, 10, 12);
    voice(x, 1, 2, 3, 12);
    voice(x, 1, 3, 14, 13, 20, 11, 10, 12, 12);
    voice(x, 2, 0, 21, 30, 10);
    voice(x, 2, 1, 42, 11, 30, 10);
    voice(x, 2, 2, 2, 12);
    voice(x, 2, 3, 40, 13, 11, 30, 10, 12);
    voice(x, 3, 0, 8, 10);
    voice(x, 3, 1, 16, 11, 10);
    voice(x, 3, 2, -1, 40, 12);
    voice(x, 3, 3, -17, 13, 11, 10, 40, 12);
    voice(x, 4, 0, 9, 10);
    voice(x, 4, 1, 24, 50, 20, 11, 10, 12);
    voice(x, 4, 2, 0, 12);
    voice(x, 4, 3, 24, 13, 50, 20, 11, 10, 12, 12);
    voice(x, 5, 0, 30, 30, 10);
    voice(x, 5, 1, 60, 11, 30, 10);
    voice(x, 5, 2, -1, 12);
    voice(x, 5, 3, -82, 60, 13, 11, 30, 10, 12, 30, 10);
    voice(x, 6, 0, 11, 10);
    voice(x, 6, 1, 22, 11, 10);
    voice(x, 6, 2, 4, 70, 40, 12);
    voice(x, 6, 3, 4, 71, 11, 10, 13, 11, 10, 70, 40, 12);
    x.become(6, 7);
    voice(x, 6, 3, 22 ^ -2, 13, 11, 10, 12);
  }

  private static void voicesGoRound() {
    DrownedBell x = new DrownedBell();
    x.fisher(9, 0);
    x.fisher(9, 0);
    Due.is("28: round", x.voice(1, 0, Integer.MAX_VALUE), Integer.MIN_VALUE);
    Due.is("28: round twice", x.voice(1, 1, 1 << 30), -2147483646);
    Due.is("29: two bodies by a great number", x.count(6), 2);
    Due.is("29: the first", x.trace(0), 11);
    Due.is("29: the second", x.trace(1), 10);
    Due.is("28: round down", x.voice(0, 2, Integer.MIN_VALUE), 2147483639);
    Due.is("28: no error though so low", x.voice(0, 0, Due.BEYOND), Due.BEYOND);
    Due.is("28: told nothing", x.told(1), 0);
  }

  /** Each act of each KIND in one line, for numbers that go round; the last of FISHERS, the greatest m. */
  private static void allGoRound() {
    int[] numbers = {Integer.MIN_VALUE, Integer.MIN_VALUE + 1, -1, 0, 1 << 29, 715827883, 1 << 30, Integer.MAX_VALUE - 1,
        Integer.MAX_VALUE};
    DrownedBell x = new DrownedBell();
    for (int i = 0; i < 8; i++) {
      x.fisher(0, 0);
    }
    int n = 7;
    int m = 9;
    for (int kind = 0; kind < 7; kind++) {
      x.become(7, 10 * kind + m);
      for (int v : numbers) {
        int hears = kind == 2 || kind == 5 ? (v + n) * 3 : v + n;
        int rows = kind == 3 ? -(v - m) : kind == 6 ? -(v - m) ^ n : v - m;
        int bids = kind == 1 ? hears * 2 - (1 - m) : kind == 4 ? (hears + 1) * 2 - (1 - m) : hears * 2;
        int plain = bids ^ rows;
        int tells = kind == 5 ? plain - (2 + n) * 3 : kind == 6 ? bids - plain : plain;
        int[] want = {hears, bids, rows, tells};
        for (int act = 0; act < 4; act++) {
          Due.is("28: kind " + kind + " act " + act + " of " + v, x.voice(7, act, v), want[act]);
        }
      }
    }
    Due.is("28: any number is no error", x.told(1), 0);
  }

  private static void traceOfTheLatest() {
    DrownedBell x = new DrownedBell();
    x.fisher(60, 0);
    x.fisher(0, 0);
    x.voice(0, 3, 1);
    Due.is("29: nine bodies", x.count(6), 9);
    Due.is("29: the last", x.trace(8), 12);
    Due.is("29: behind the last", x.trace(9), Due.NONE);
    x.voice(1, 0, 1);
    Due.is("29: one body", x.count(6), 1);
    Due.is("29: that one", x.trace(0), 10);
    Due.is("29: none of the longer one ahead", x.trace(1), Due.NONE);
    x.become(1, 22);
    Due.is("29: as they began then", x.trace(0), 10);
    x.image();
    x.restore();
    Due.is("29: restored, it stays", x.count(6), 1);
  }

  private static void voiceWrong() {
    DrownedBell x = new DrownedBell();
    Due.is("28: nobody", x.voice(0, 0, 0), Due.BEYOND);
    x.fisher(11, 0);
    x.voice(0, 1, 0);
    int[][] wrong = {{-1, 0}, {1, 0}, {0, -1}, {0, 4}};
    for (int[] w : wrong) {
      Due.is("28: beyond " + w[0] + " " + w[1], x.voice(w[0], w[1], 0), Due.BEYOND);
    }
    Due.is("29: the trace stays", x.count(6), 4);
    Due.is("29: as it was", x.trace(0), 20);
    Due.is("29: told none", x.told(2), 0);
    Due.is("29: none", x.trace(4), Due.NONE);
    Due.is("29: told", x.told(2), 1);
  }
}
