/**
 * Any arguments in any order: no call throws; one that answers an ERROR changes nothing but what told()
 * tells. A second object gets only the calls that the first one answered without an ERROR: both stay alike.
 */
public final class WildTest {
  private static final int OBJECTS = 600;
  /** What is seen of both objects at the end takes some 200 calls more, of 512. */
  private static final int RUN = 300;
  private static final int CALLS = 39;

  private WildTest() {
  }

  public static void main(String[] args) {
    for (int i = 0; i < OBJECTS; i++) {
      run(i);
    }
    Due.end();
  }

  private static void run(int number) {
    Draws draws = new Draws(1000 + number);
    DrownedBell x = new DrownedBell();
    DrownedBell y = new DrownedBell();
    int[] errors = new int[6];
    for (int i = 0; i < RUN; i++) {
      int which = draws.below(CALLS);
      int[] a = new int[5];
      for (int k = 0; k < a.length; k++) {
        a[k] = draws.below(3) == 0 ? draws.wild() : draws.below(4);
      }
      long answer = call(x, which, a);
      int error = errorOf(which, a, answer);
      if (error == 0) {
        call(y, which, a);
      } else {
        errors[error]++;
      }
    }
    for (int k = 1; k <= 5; k++) {
      Due.is("object " + number + " told " + k, x.told(k), errors[k]);
    }
    alike("object " + number, x, y);
  }

  /** 0: none. What seed, voice and count(7) answer may be any number. */
  private static int errorOf(int which, int[] a, long answer) {
    boolean anyNumber = which == 25 || which == 37 && a[0] == 7;
    return anyNumber || answer >= -1000000000 || answer < -1000000005 ? 0 : (int) (-1000000000 - answer);
  }

  private static void alike(String what, DrownedBell x, DrownedBell y) {
    for (int i = 0; i < 13; i++) {
      Due.is(what + " now " + i, x.now(i), y.now(i));
      Due.is(what + " then " + i, x.then(240, i), y.then(240, i));
    }
    for (int i = 0; i < 8; i++) {
      Due.is(what + " count " + i, x.count(i), y.count(i));
      for (int k = 0; k < 8; k++) {
        Due.is(what + " fisher " + i + " " + k, x.ofFisher(i, k), y.ofFisher(i, k));
      }
    }
    for (int i = 0; i < 40; i++) {
      Due.is(what + " trace " + i, x.trace(i), y.trace(i));
    }
    for (int note = 0; note <= 9; note++) {
      Due.is(what + " dry " + note, x.book(note, 0), y.book(note, 0));
      Due.is(what + " wet " + note, x.book(note, 1), y.book(note, 1));
    }
    for (int i = 0; i < 4; i++) {
      Due.is(what + " judges " + i, x.judge(i), y.judge(i));
      Due.is(what + " rains " + i, x.rains(i, i % 3), y.rains(i, i % 3));
    }
    Due.is(what + " shows", x.shows(), y.shows());
    Due.is(what + " tape", x.text(0), y.text(0));
    Due.is(what + " rings", x.law(0, 5, 6, 7), y.law(0, 5, 6, 7));
    Due.is(what + " lets", x.law(1, 500, 6, 7), y.law(1, 500, 6, 7));
    Due.is(what + " waiting", x.check(), y.check());
    Due.is(what + " image", x.restore(), y.restore());
    for (int i = 0; i < 13; i++) {
      Due.is(what + " of the image " + i, x.now(i), y.now(i));
    }
  }

  private static long call(DrownedBell x, int which, int[] a) {
    switch (which) {
      case 0: return x.rain(a[0], a[1], a[2]);
      case 1: return x.set(a[0], a[1]);
      case 2: return x.now(a[0]);
      case 3: return x.led(a[0]);
      case 4: return x.thing(a[0], a[1]);
      case 5: return x.shows();
      case 6: return x.fisher(a[0], a[1]);
      case 7: return x.ofFisher(a[0], a[1]);
      case 8: return x.change(a[0], a[1], a[2]);
      case 9: return x.become(a[0], a[1]);
      case 10: return x.as(a[0], a[1]);
      case 11: return x.bids(a[0], a[1], a[2]);
      case 12: return x.sell();
      case 13: return x.feed((long) a[0] << 32 ^ a[1], a[2]);
      case 14: return x.text(a[0]);
      case 15: return x.law(a[0], a[1], a[2], a[3]);
      case 16: return x.hours(a[0]);
      case 17: return x.loose(a[0]);
      case 18: return x.then(a[0], a[1]);
      case 19: return x.thenFisher(a[0], a[1], a[2]);
      default: return callMore(x, which, a);
    }
  }

  private static long callMore(DrownedBell x, int which, int[] a) {
    switch (which) {
      case 20: return x.falls(a[0]);
      case 21: return x.book(a[0], a[1]);
      case 22: return x.odds(a[0], a[1]);
      case 23: return x.gateFor(a[0], a[1], a[2]);
      case 24: return x.shown(a[0], a[1]);
      case 25: return x.seed(a[0]);
      case 26: return x.voice(a[0], a[1], a[2] % 1000);
      case 27: return x.trace(a[0]);
      case 28: return x.sheet(a[0], 8 * (a[1] % 5), a[2]);
      case 29: return x.put(a[0], a[1], a[2]);
      case 30: return x.move(a[0], a[1], a[2], a[3], a[4]);
      case 31: return x.rains(a[0], a[1]);
      case 32: return x.judge(a[0]);
      case 33: return x.image();
      case 34: return x.restore();
      case 35: return x.tell(a[0]);
      case 36: return x.check();
      case 37: return x.count(a[0]);
      default: return x.told(a[0]);
    }
  }
}
