import java.util.ArrayList;
import java.util.Arrays;
import java.util.List;

/**
 * Each refused call of each promise: the ERROR that it answers, told() one more of that ERROR and none of the
 * others, and all else as if the call had not been made.
 */
public final class RefusalsTest {
  private static final int LEAST = Integer.MIN_VALUE;
  private static final int MOST = Integer.MAX_VALUE;

  private interface Call {
    long on(DrownedBell x);
  }

  private interface Maker {
    DrownedBell make();
  }

  private final Maker maker;
  private final List<Long> asItWas;

  private RefusalsTest(Maker maker) {
    this.maker = maker;
    asItWas = seen(maker.make());
  }

  public static void main(String[] args) {
    RefusalsTest full = new RefusalsTest(RefusalsTest::fullOne);
    lake(full);
    fishers(full);
    texts(full);
    hoursAndAhead(full);
    sheets(full);
    told(full);
    moved(full);
    none();
    Due.end();
  }

  private void refused(String what, int error, Call call) {
    DrownedBell x = maker.make();
    int[] before = toldOf(x);
    Due.is(what, call.on(x), error);
    int[] after = toldOf(x);
    for (int k = 0; k < 5; k++) {
      Due.is(what + ": told " + (k + 1), after[k] - before[k], k + 1 == -1000000000 - error ? 1 : 0);
    }
    List<Long> now = seen(x);
    for (int i = 0; i < now.size(); i++) {
      Due.is(what + ": what is seen at place " + i, now.get(i), asItWas.get(i));
    }
  }

  private static int[] toldOf(DrownedBell x) {
    int[] told = new int[5];
    for (int k = 1; k <= 5; k++) {
      told[k - 1] = x.told(k);
    }
    return told;
  }

  /** 8 FISHERS, 50 bytes, 20 numbers wait, the last HOUR but one, an IMAGE, three SHEETS, a TRACE. */
  private static DrownedBell fullOne() {
    DrownedBell x = new DrownedBell();
    x.rain(0, 2, 3);
    x.rain(1, 4, 9);
    x.rain(2, 14, 7);
    x.set(2, 5);
    x.set(7, 99999);
    x.thing(0, 0);
    for (int i = 0; i < 8; i++) {
      x.fisher(10 * (i % 7) + i, 9 * i);
    }
    Due.text(x, 0, "c+1");
    Due.text(x, 1, "f");
    for (int i = 0; i < 41; i++) {
      x.hours(240);
    }
    x.image();
    x.hours(158);
    x.sheet(0, 8, 3);
    x.put(0, 1, 4);
    x.sheet(1, 16, 2);
    x.put(1, 0, 9);
    x.sheet(2, 32, 40);
    x.voice(5, 3, 7);
    Due.feed(x, "1+1+1+1+1+1+1+1+1+1+1+1+1+1+1+1+1+1+1+1+1+1+1+1+10");
    for (int i = 0; i < 20; i++) {
      x.tell(i < 9 ? 300 : i);
    }
    x.seed(77);
    return x;
  }

  /** What is in it, row by row; it is of no use then. */
  private static List<Long> seen(DrownedBell x) {
    List<Long> all = new ArrayList<>();
    readings(x, all);
    for (int hour = 0; hour < 24; hour++) {
      for (int stream = 0; stream < 3; stream++) {
        all.add((long) x.rain(stream, hour, 0));
      }
    }
    for (int i = 0; i < 6; i++) {
      all.add((long) x.thing(i, 0));
    }
    for (int sheet = 0; sheet < 4; sheet++) {
      all.add((long) x.judge(sheet));
      all.add((long) x.rains(sheet, 1));
      for (int hour = 0; hour < 6; hour++) {
        all.add((long) x.rain(1, hour, 0));
      }
      all.add((long) x.move(0, 0, sheet, 0, 0));
    }
    for (int use = 0; use < 2; use++) {
      all.add((long) x.law(use, 13, 7, 2));
    }
    all.add((long) x.check());
    all.add((long) x.count(5));
    all.add((long) x.text(0));
    all.add((long) x.law(0, 13, 7, 2));
    all.add((long) x.restore());
    readings(x, all);
    all.add((long) x.image());
    return all;
  }

  private static void readings(DrownedBell x, List<Long> all) {
    for (int what = 0; what < 13; what++) {
      all.add((long) x.now(what));
    }
    for (int what = 0; what < 8; what++) {
      all.add((long) x.count(what));
    }
    for (int fisher = 0; fisher < x.count(1); fisher++) {
      for (int what = 0; what < 6; what++) {
        all.add((long) x.ofFisher(fisher, what));
      }
    }
    for (int note = 0; note < 10; note += 3) {
      all.add((long) x.book(note, 0));
      all.add((long) x.book(note, 1));
    }
    for (int i = 0; i < x.count(6); i++) {
      all.add((long) x.trace(i));
    }
  }

  private static String row(String name, int[] a) {
    return name + Arrays.toString(a);
  }

  private static void lake(RefusalsTest t) {
    int[][] rain = {{-1, 0, 0}, {3, 0, 0}, {0, -1, 0}, {0, 24, 0}, {0, 0, -1}, {0, 0, 10}, {LEAST, 0, 0}, {0, MOST, 0}};
    for (int[] a : rain) {
      t.refused(row("2: rain ", a), Due.BEYOND, x -> x.rain(a[0], a[1], a[2]));
    }
    int[][] set = {{-1, 1}, {8, 1}, {0, 0}, {0, 6}, {1, 0}, {1, 6}, {2, 0}, {2, 6}, {3, -1}, {3, 601}, {4, -1}, {4, 91},
        {5, -1}, {5, 91}, {6, -1}, {6, 2}, {7, 0}, {7, 100000}, {LEAST, 1}, {MOST, 1}};
    for (int[] a : set) {
      t.refused(row("3: set ", a), Due.BEYOND, x -> x.set(a[0], a[1]));
    }
    int[][] one = {{-1}, {LEAST}, {MOST}};
    for (int[] a : one) {
      t.refused(row("4: now ", a), Due.BEYOND, x -> x.now(a[0]));
      t.refused(row("5: led ", a), Due.BEYOND, x -> x.led(a[0]));
    }
    t.refused("4: now 13", Due.BEYOND, x -> x.now(13));
    t.refused("5: led 24", Due.BEYOND, x -> x.led(24));
    t.refused("5: led of a dry hour", Due.NONE, x -> x.led(3));
    int[][] thing = {{-1, 0}, {6, 0}, {0, -1}, {0, 601}, {LEAST, 0}, {0, MOST}};
    for (int[] a : thing) {
      t.refused(row("6: thing ", a), Due.BEYOND, x -> x.thing(a[0], a[1]));
    }
  }

  private static void fishers(RefusalsTest t) {
    int[][] beyond = {{-1, 0}, {70, 0}, {0, -1}, {0, 100}, {LEAST, 0}, {0, MOST}};
    for (int[] a : beyond) {
      t.refused(row("8: fisher ", a), Due.BEYOND, x -> x.fisher(a[0], a[1]));
    }
    t.refused("8: the ninth", Due.FULL, x -> x.fisher(69, 99));
    int[][] of = {{-1, 0}, {8, 0}, {0, -1}, {0, 8}, {LEAST, 0}, {0, MOST}};
    for (int[] a : of) {
      t.refused(row("9: ofFisher ", a), Due.BEYOND, x -> x.ofFisher(a[0], a[1]));
    }
    int[][] change = {{-1, 2, 1}, {8, 2, 1}, {0, 2, -1}, {0, 2, 100}, {0, 3, -1}, {0, 3, 10000}, {0, 0, 1}, {0, 1, 1},
        {0, 4, 1}, {0, 5, 1}, {0, 6, 1}, {0, 7, 1}, {0, -1, 1}, {0, MOST, 1}};
    for (int[] a : change) {
      t.refused(row("10: change ", a), Due.BEYOND, x -> x.change(a[0], a[1], a[2]));
    }
    int[][] become = {{-1, 0}, {8, 0}, {0, -1}, {0, 70}, {0, LEAST}, {MOST, 0}};
    for (int[] a : become) {
      t.refused(row("11: become ", a), Due.BEYOND, x -> x.become(a[0], a[1]));
    }
    int[][] as = {{-1, 0}, {8, 0}, {0, -1}, {0, 7}, {LEAST, 0}, {0, MOST}};
    for (int[] a : as) {
      t.refused(row("12: as ", a), Due.BEYOND, x -> x.as(a[0], a[1]));
    }
    t.refused("12: beside", Due.KIND, x -> x.as(1, 2));
    t.refused("12: under", Due.KIND, x -> x.as(1, 4));
    int[][] bids = {{-1, 1, 1}, {8, 1, 1}, {0, -1, 1}, {0, 1000, 1}, {0, 1, 0}, {0, 1, 1000}, {0, 1, -1}, {0, LEAST, 1}};
    for (int[] a : bids) {
      t.refused(row("13: bids ", a), Due.BEYOND, x -> x.bids(a[0], a[1], a[2]));
    }
  }

  private static void texts(RefusalsTest t) {
    int[] feed = {0, 9, -1, LEAST, MOST};
    for (int n : feed) {
      t.refused("15: feed " + n, Due.BEYOND, x -> x.feed(0x31, n));
    }
    t.refused("15: the fifty-first byte", Due.FULL, x -> x.feed(0x31, 1));
    t.refused("15: eight more", Due.FULL, x -> x.feed(0x31, 8));
    int[] use = {-1, 2, LEAST, MOST};
    for (int a : use) {
      t.refused("16: text " + a, Due.BEYOND, x -> x.text(a));
      t.refused("17: law " + a, Due.BEYOND, x -> x.law(a, 1, 1, 1));
    }
  }

  private static void hoursAndAhead(RefusalsTest t) {
    int[] hours = {0, -1, 241, LEAST, MOST};
    for (int n : hours) {
      t.refused("18: hours " + n, Due.BEYOND, x -> x.hours(n));
      t.refused("19: loose " + n, Due.BEYOND, x -> x.loose(n));
    }
    t.refused("18: behind the last", Due.STATE, x -> x.hours(2));
    t.refused("18: far behind the last", Due.STATE, x -> x.hours(240));
    t.refused("19: behind the last", Due.STATE, x -> x.loose(2));
    t.refused("19: far behind the last", Due.STATE, x -> x.loose(240));
    int[] ahead = {-1, 241, LEAST, MOST};
    for (int n : ahead) {
      t.refused("20: then " + n, Due.BEYOND, x -> x.then(n, 0));
      t.refused("21: thenFisher " + n, Due.BEYOND, x -> x.thenFisher(n, 0, 0));
      t.refused("22: falls " + n, Due.BEYOND, x -> x.falls(n));
      t.refused("26: shown " + n, Due.BEYOND, x -> x.shown(0, n));
    }
    int[][] two = {{0, -1}, {0, 13}, {0, MOST}};
    for (int[] a : two) {
      t.refused(row("20: then ", a), Due.BEYOND, x -> x.then(a[0], a[1]));
    }
    int[][] three = {{0, -1, 0}, {0, 8, 0}, {0, 0, -1}, {0, 0, 8}, {0, LEAST, 0}};
    for (int[] a : three) {
      t.refused(row("21: thenFisher ", a), Due.BEYOND, x -> x.thenFisher(a[0], a[1], a[2]));
    }
    t.refused("22: it stands", Due.NONE, x -> x.falls(240));
    int[][] book = {{-1, 0}, {10, 0}, {0, -1}, {0, 2}, {MOST, 0}};
    for (int[] a : book) {
      t.refused(row("23: book ", a), Due.BEYOND, x -> x.book(a[0], a[1]));
      t.refused(row("24: odds ", a), Due.BEYOND, x -> x.odds(a[0], a[1]));
    }
    int[][] gate = {{-1, 0, 1}, {0, 601, 1}, {601, 601, 1}, {-1, -1, 1}, {9, 8, 1}, {0, 600, 0}, {0, 600, 49},
        {0, 600, -1}, {LEAST, MOST, 1}};
    for (int[] a : gate) {
      t.refused(row("25: gateFor ", a), Due.BEYOND, x -> x.gateFor(a[0], a[1], a[2]));
    }
    t.refused("25: no gate", Due.NONE, x -> x.gateFor(0, 0, 48));
    int[] things = {-1, 6, LEAST, MOST};
    for (int thing : things) {
      t.refused("26: thing " + thing, Due.BEYOND, x -> x.shown(thing, 1));
    }
    t.refused("26: under water", Due.NONE, x -> x.shown(0, 240));
  }

  private static void sheets(RefusalsTest t) {
    int[][] sheet = {{-1, 8, 1}, {4, 8, 1}, {0, 7, 1}, {0, -8, 1}, {0, 24, 1}, {0, 64, 1}, {0, 8, 41}, {0, 32, MOST},
        {4, 8, -1}, {0, 9, -1}};
    for (int[] a : sheet) {
      t.refused(row("30: sheet ", a), Due.BEYOND, x -> x.sheet(a[0], a[1], a[2]));
    }
    t.refused("30: -1 numbers", Due.STATE, x -> x.sheet(0, 8, -1));
    t.refused("30: the least of numbers", Due.STATE, x -> x.sheet(3, 32, LEAST));
    int[][] put = {{-1, 0}, {4, 0}, {0, -1}, {0, 3}, {2, 40}, {0, LEAST}, {0, MOST}};
    for (int[] a : put) {
      t.refused(row("31: put ", a), Due.BEYOND, x -> x.put(a[0], a[1], 5));
    }
    t.refused("31: put on a missing one", Due.NONE, x -> x.put(3, 0, 5));
    int[] no = {-1, 4, LEAST, MOST};
    for (int a : no) {
      t.refused("33: rains " + a, Due.BEYOND, x -> x.rains(a, 0));
      t.refused("33: rains of stream " + (a == 4 ? 3 : a), Due.BEYOND, x -> x.rains(0, a == 4 ? 3 : a));
      t.refused("34: judge " + a, Due.BEYOND, x -> x.judge(a));
    }
    t.refused("33: rains from a missing one", Due.NONE, x -> x.rains(3, 0));
    t.refused("33: no stream ahead of missing", Due.BEYOND, x -> x.rains(3, 3));
    t.refused("34: judge of a missing one", Due.NONE, x -> x.judge(3));
  }

  private static void moved(RefusalsTest t) {
    int[][] beyond = {{-1, 0, 0, 0, 1}, {4, 0, 0, 0, 1}, {0, 0, -1, 0, 1}, {0, 0, 4, 0, 1}, {3, 0, 4, 0, 1},
        {0, 0, 0, 0, -1}, {0, -1, 0, 0, 1}, {0, 0, 0, -1, 1}, {0, 3, 0, 0, 1}, {0, 0, 0, 3, 1}, {0, 1, 0, 0, 3},
        {0, 0, 0, 1, 3}, {0, 0, 0, 0, 4}, {2, 0, 2, 0, 41}, {2, 1, 2, 0, MOST}, {2, MOST, 2, 0, 2}, {2, 0, 2, MOST, 2},
        {2, LEAST, 2, 0, LEAST}, {2, 40, 2, 0, LEAST}};
    for (int[] a : beyond) {
      t.refused(row("32: move ", a), Due.BEYOND, x -> x.move(a[0], a[1], a[2], a[3], a[4]));
    }
    t.refused("32: from a missing one", Due.NONE, x -> x.move(3, 0, 0, 0, 1));
    t.refused("32: to a missing one", Due.NONE, x -> x.move(0, 0, 3, 0, 1));
    t.refused("32: missing ahead of unlike and beyond", Due.NONE, x -> x.move(3, -1, 1, 0, -1));
    t.refused("32: unlike bits", Due.KIND, x -> x.move(0, 0, 1, 0, 1));
    t.refused("32: unlike ahead of beyond", Due.KIND, x -> x.move(2, -1, 1, 0, -1));
  }

  private static void told(RefusalsTest t) {
    int[][] voice = {{-1, 0}, {8, 0}, {0, -1}, {0, 4}, {LEAST, 0}, {0, MOST}};
    for (int[] a : voice) {
      t.refused(row("28: voice ", a), Due.BEYOND, x -> x.voice(a[0], a[1], 1));
    }
    int[] trace = {-1, 8, 39, 40, LEAST, MOST};
    for (int i : trace) {
      t.refused("29: trace " + i, Due.NONE, x -> x.trace(i));
    }
    t.refused("37: the twenty-first", Due.FULL, x -> x.tell(1));
    int[] count = {-1, 8, LEAST, MOST};
    for (int what : count) {
      t.refused("39: count " + what, Due.BEYOND, x -> x.count(what));
    }
    int[] told = {0, 6, -1, LEAST, MOST};
    for (int k : told) {
      t.refused("40: told " + k, Due.BEYOND, x -> x.told(k));
    }
  }

  /** Where there is nothing at all. */
  private static void none() {
    RefusalsTest t = new RefusalsTest(DrownedBell::new);
    t.refused("5: no rain", Due.NONE, x -> x.led(0));
    t.refused("9: nobody", Due.BEYOND, x -> x.ofFisher(0, 0));
    t.refused("10: nobody", Due.BEYOND, x -> x.change(0, 2, 0));
    t.refused("11: nobody", Due.BEYOND, x -> x.become(0, 0));
    t.refused("12: nobody", Due.BEYOND, x -> x.as(0, 0));
    t.refused("13: nobody", Due.BEYOND, x -> x.bids(0, 1, 1));
    t.refused("14: nobody", Due.NONE, x -> x.sell());
    t.refused("21: nobody", Due.BEYOND, x -> x.thenFisher(1, 0, 0));
    t.refused("22: no current", Due.NONE, x -> x.falls(240));
    t.refused("28: nobody", Due.BEYOND, x -> x.voice(0, 0, 0));
    t.refused("29: no trace", Due.NONE, x -> x.trace(0));
    t.refused("31: no sheet", Due.NONE, x -> x.put(0, 0, 0));
    t.refused("32: no sheets", Due.NONE, x -> x.move(0, 0, 1, 0, 0));
    t.refused("33: no sheet", Due.NONE, x -> x.rains(0, 0));
    t.refused("34: no sheet", Due.NONE, x -> x.judge(0));
    t.refused("36: no image", Due.NONE, x -> x.restore());
    RefusalsTest deaf = new RefusalsTest(RefusalsTest::deafOne);
    deaf.refused("14: nobody bids", Due.NONE, x -> x.sell());
  }

  /** One that hears but BIDS 0, one that would BID but didn't hear. */
  private static DrownedBell deafOne() {
    DrownedBell x = Due.steadyOne();
    Due.text(x, 0, "9");
    x.fisher(20, 0);
    x.fisher(9, 99);
    x.hours(3);
    return x;
  }
}
