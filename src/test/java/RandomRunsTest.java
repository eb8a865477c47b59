/** Runs of drawn calls, at most 512 on each object, against the Model. */
public final class RandomRunsTest {
  private static final String[] CALLS = {"rain", "set", "now", "led", "thing", "shows", "fisher", "ofFisher",
      "change", "become", "as", "bids", "sell", "feed", "text", "law", "hours", "loose", "then", "thenFisher", "falls",
      "book", "odds", "gateFor", "shown", "seed", "voice", "trace", "sheet", "put", "move", "rains", "judge", "image",
      "restore", "tell", "check", "count", "told"};
  private static final int OBJECTS = 800;
  private static final int RUN = 512;

  private final Draws draws;
  private final DrownedBell x = new DrownedBell();
  private final Model y = new Model();
  private String call = "";
  private int calls;
  private long got;
  private long want;

  private RandomRunsTest(long seed) {
    draws = new Draws(seed);
  }

  public static void main(String[] args) {
    for (int i = 0; i < OBJECTS; i++) {
      new RandomRunsTest(i).run(i);
    }
    Due.end();
  }

  /** Every tenth object is old: its last HOUR is near. */
  private void growOld() {
    for (; calls < 41; calls++) {
      x.hours(240);
      y.hours(240);
    }
  }

  private void run(int number) {
    if (number % 10 == 9) {
      growOld();
    }
    while (calls < RUN) {
      int which = draws.below(CALLS.length + 3);
      if (which >= CALLS.length) {
        wholeText();
      } else if (which < 18) {
        one(which);
      } else if (which < 27) {
        ahead(which);
      } else {
        other(which);
      }
      if (got != want) {
        Due.is("object " + number + " call " + calls + ": " + call, got, want);
        return;
      }
    }
    Due.is("object " + number, got, want);
  }

  private void answer(int which, long mine, long due, int... arguments) {
    StringBuilder s = new StringBuilder(CALLS[which]);
    for (int a : arguments) {
      s.append(' ').append(a);
    }
    call = s.toString();
    calls++;
    got = mine;
    want = due;
  }

  private void wholeText() {
    int use = draws.near(0, 1);
    String t = draws.text(use == 1 ? "lfg" : "csl", 3);
    if (calls + t.length() + 2 > RUN) {
      return;
    }
    calls += t.length() + 2;
    x.text(0);
    y.text(0);
    for (int i = 0; i < t.length(); i++) {
      x.feed(t.charAt(i), 1);
      y.feed(t.charAt(i), 1);
    }
    call = "text " + use + " of " + t;
    got = x.text(use);
    want = y.text(use);
  }

  private void one(int which) {
    int a;
    int b;
    int c;
    switch (which) {
      case 0:
        a = draws.near(0, 2);
        b = draws.near(0, 23);
        c = draws.near(0, 9);
        answer(which, x.rain(a, b, c), y.rain(a, b, c), a, b, c);
        break;
      case 1:
        int[] most = {5, 5, 5, 600, 90, 90, 1, 2000};
        a = draws.near(0, 7);
        b = a == 6 && draws.below(4) > 0 ? 0 : draws.near(a < 3 ? 1 : 0, a >= 0 && a < 8 ? most[a] : 9);
        answer(which, x.set(a, b), y.set(a, b), a, b);
        break;
      case 2:
        a = draws.near(0, 12);
        answer(which, x.now(a), y.now(a), a);
        break;
      case 3:
        a = draws.near(0, 23);
        answer(which, x.led(a), y.led(a), a);
        break;
      case 4:
        a = draws.near(0, 5);
        b = draws.near(0, 600);
        answer(which, x.thing(a, b), y.thing(a, b), a, b);
        break;
      case 5:
        answer(which, x.shows(), y.shows());
        break;
      case 6:
        a = draws.near(0, 69);
        b = draws.near(0, 99);
        answer(which, x.fisher(a, b), y.fisher(a, b), a, b);
        break;
      case 7:
        a = draws.near(0, 7);
        b = draws.near(0, 7);
        answer(which, x.ofFisher(a, b), y.ofFisher(a, b), a, b);
        break;
      case 8:
        a = draws.near(0, 7);
        b = draws.near(2, 3);
        c = draws.near(0, b == 2 ? 99 : draws.below(5) == 0 ? 9999 : 30);
        answer(which, x.change(a, b, c), y.change(a, b, c), a, b, c);
        break;
      case 9:
        a = draws.near(0, 7);
        b = draws.near(0, 69);
        answer(which, x.become(a, b), y.become(a, b), a, b);
        break;
      default:
        oneMore(which);
    }
  }

  private void oneMore(int which) {
    int a;
    int b;
    int c;
    switch (which) {
      case 10:
        a = draws.near(0, 7);
        b = draws.near(0, 6);
        answer(which, x.as(a, b), y.as(a, b), a, b);
        break;
      case 11:
        a = draws.near(0, 7);
        b = draws.near(0, draws.below(2) == 0 ? 999 : 9);
        c = draws.near(1, draws.below(2) == 0 ? 999 : 9);
        answer(which, x.bids(a, b, c), y.bids(a, b, c), a, b, c);
        break;
      case 12:
        answer(which, x.sell(), y.sell());
        break;
      case 13:
        long word = (long) draws.bits() << 32 ^ draws.bits();
        a = draws.near(1, 8);
        answer(which, x.feed(word, a), y.feed(word, a), (int) (word >> 32), (int) word, a);
        break;
      case 14:
        a = draws.near(0, 1);
        answer(which, x.text(a), y.text(a), a);
        break;
      case 15:
        a = draws.near(0, 1);
        b = draws.wild();
        c = draws.wild();
        int d = draws.wild();
        answer(which, x.law(a, b, c, d), y.law(a, b, c, d), a, b, c, d);
        break;
      case 16:
        a = draws.near(1, hoursAtOnce());
        answer(which, x.hours(a), y.hours(a), a);
        break;
      default:
        a = draws.near(1, hoursAtOnce());
        answer(which, x.loose(a), y.loose(a), a);
    }
  }

  private int hoursAtOnce() {
    int kind = draws.below(12);
    return kind == 0 ? 240 : kind < 4 ? 30 : 3;
  }

  private void ahead(int which) {
    int a = draws.near(0, hoursAtOnce());
    int b;
    int c;
    switch (which) {
      case 18:
        b = draws.near(0, 12);
        answer(which, x.then(a, b), y.then(a, b), a, b);
        break;
      case 19:
        b = draws.near(0, 7);
        c = draws.near(0, 7);
        answer(which, x.thenFisher(a, b, c), y.thenFisher(a, b, c), a, b, c);
        break;
      case 20:
        answer(which, x.falls(a), y.falls(a), a);
        break;
      case 21:
        a = draws.near(0, 9);
        b = draws.near(0, 1);
        answer(which, x.book(a, b), y.book(a, b), a, b);
        break;
      case 22:
        a = draws.near(0, 9);
        b = draws.near(0, 1);
        answer(which, x.odds(a, b), y.odds(a, b), a, b);
        break;
      case 23:
        int level = y.now(4);
        a = draws.below(3) == 0 ? draws.near(0, 600) : Math.max(0, level - draws.below(60));
        b = draws.below(3) == 0 ? draws.near(0, 600) : Math.min(600, level + draws.below(60));
        c = draws.near(1, draws.below(3) == 0 ? 48 : 6);
        answer(which, x.gateFor(a, b, c), y.gateFor(a, b, c), a, b, c);
        break;
      case 24:
        b = draws.near(0, 5);
        answer(which, x.shown(b, a), y.shown(b, a), b, a);
        break;
      case 25:
        a = draws.wild();
        answer(which, x.seed(a), y.seed(a), a);
        break;
      default:
        a = draws.near(0, 7);
        b = draws.near(0, 3);
        c = draws.wild();
        answer(which, x.voice(a, b, c), y.voice(a, b, c), a, b, c);
    }
  }

  private void other(int which) {
    int a = draws.near(0, 3);
    int b;
    int c;
    switch (which) {
      case 27:
        b = draws.near(0, 9);
        answer(which, x.trace(b), y.trace(b), b);
        break;
      case 28:
        int[] bits = {8, 16, 32, 8, 16, 32, 0, 9};
        b = bits[draws.below(8)];
        c = draws.near(0, 40);
        answer(which, x.sheet(a, b, c), y.sheet(a, b, c), a, b, c);
        break;
      case 29:
        b = draws.near(0, draws.below(2) == 0 ? 39 : 3);
        c = draws.below(2) == 0 ? draws.wild() : y.then(Math.max(0, b), 3);
        answer(which, x.put(a, b, c), y.put(a, b, c), a, b, c);
        break;
      case 30:
        b = draws.near(0, draws.below(2) == 0 ? 40 : 9);
        c = draws.near(0, 3);
        int j = draws.near(0, draws.below(2) == 0 ? 40 : 9);
        int n = draws.near(0, draws.below(2) == 0 ? 40 : 9);
        answer(which, x.move(a, b, c, j, n), y.move(a, b, c, j, n), a, b, c, j, n);
        break;
      case 31:
        b = draws.near(0, 2);
        answer(which, x.rains(a, b), y.rains(a, b), a, b);
        break;
      case 32:
        answer(which, x.judge(a), y.judge(a), a);
        break;
      case 33:
        answer(which, x.image(), y.image());
        break;
      case 34:
        answer(which, x.restore(), y.restore());
        break;
      case 35:
        b = draws.below(4) == 0 ? draws.wild() : y.then(y.count(5) + 1, 4);
        answer(which, x.tell(b), y.tell(b), b);
        break;
      case 36:
        answer(which, x.check(), y.check());
        break;
      case 37:
        b = draws.near(0, 7);
        answer(which, x.count(b), y.count(b), b);
        break;
      default:
        b = draws.near(1, 5);
        answer(which, x.told(b), y.told(b), b);
    }
  }
}
