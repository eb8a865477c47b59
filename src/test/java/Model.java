import java.util.ArrayList;
import java.util.HashMap;
import java.util.List;
import java.util.Map;

/**
 * The document once more, with the Java library and without a thought of the room it takes:
 * KINDS are classes, TEXTS are split and worked out as strings, AHEAD is a copy of everything.
 */
final class Model {
  /** What one of FISHERS sees of the bell. */
  static class Kind {
    int far;
    int purse = 20;
    int heard;
    int latest;
    int m;
    int n;
    List<Integer> trace = new ArrayList<>();

    static Kind of(int km, int n) {
      Kind[] kinds = {new Kind(), new Angler(), new Deaf(), new Old(), new Greedy(), new Stone(), new Diver()};
      Kind one = kinds[km / 10];
      one.m = km % 10;
      one.n = n;
      return one;
    }

    Kind as(int km) {
      Kind one = of(km, n);
      one.far = far;
      one.purse = purse;
      one.heard = heard;
      one.latest = latest;
      return one;
    }

    int number() {
      return 0;
    }

    boolean perceives(int strikes, int note) {
      return 10 * strikes - far > 0;
    }

    int wants(int a, int b) {
      return 10 * a / b;
    }

    int hears(int x) {
      trace.add(10);
      return x + n;
    }

    int bids(int x) {
      trace.add(11);
      return hears(x) * 2;
    }

    int rows(int x) {
      trace.add(12);
      return x - m;
    }

    int tells(int x) {
      trace.add(13);
      return bids(x) ^ rows(x);
    }
  }

  static class Angler extends Kind {
    @Override int number() {
      return 1;
    }

    @Override boolean perceives(int strikes, int note) {
      return 10 * strikes - far > m;
    }

    @Override int wants(int a, int b) {
      return super.wants(a, b) + m;
    }

    @Override int bids(int x) {
      trace.add(20);
      return super.bids(x) - rows(1);
    }
  }

  static class Deaf extends Kind {
    @Override int number() {
      return 2;
    }

    @Override boolean perceives(int strikes, int note) {
      return 10 * strikes - far >= 50;
    }

    @Override int wants(int a, int b) {
      return 0;
    }

    @Override int hears(int x) {
      trace.add(30);
      return super.hears(x) * 3;
    }
  }

  static class Old extends Kind {
    @Override int number() {
      return 3;
    }

    @Override boolean perceives(int strikes, int note) {
      return super.perceives(strikes, note) && (note & 1) == 1;
    }

    @Override int wants(int a, int b) {
      return super.wants(a, b) / 2;
    }

    @Override int rows(int x) {
      trace.add(40);
      return -super.rows(x);
    }
  }

  static final class Greedy extends Angler {
    @Override int number() {
      return 4;
    }

    @Override boolean perceives(int strikes, int note) {
      return super.perceives(strikes, note) || note == m;
    }

    @Override int wants(int a, int b) {
      return 2 * super.wants(a, b);
    }

    @Override int bids(int x) {
      trace.add(50);
      return super.bids(x + 1);
    }
  }

  static final class Stone extends Deaf {
    @Override int number() {
      return 5;
    }

    @Override boolean perceives(int strikes, int note) {
      return strikes - 9 - m >= 0;
    }

    @Override int wants(int a, int b) {
      return super.wants(a, b) + 1;
    }

    @Override int tells(int x) {
      trace.add(60);
      return super.tells(x) - hears(2);
    }
  }

  static final class Diver extends Old {
    @Override int number() {
      return 6;
    }

    @Override boolean perceives(int strikes, int note) {
      return true;
    }

    @Override int wants(int a, int b) {
      return super.wants(a, b) + m;
    }

    @Override int rows(int x) {
      trace.add(70);
      return super.rows(x) ^ n;
    }

    @Override int tells(int x) {
      trace.add(71);
      return bids(x) - super.tells(x);
    }
  }

  /** All that an IMAGE keeps. */
  static final class All {
    int[] wide = {2, 2, 2};
    int[][] rain = new int[3][24];
    int[] things = {100, 200, 300, 400, 500, 600};
    int hour;
    int level = 300;
    int gate = 5;
    int silt;
    int muffled;
    int limit = 500;
    int spilt;
    int strain;
    int past;
    int z = 1;
    List<Kind> fishers = new ArrayList<>();
    Map<String, Integer> book = new HashMap<>();
    String tape = "";
    String[] texts = new String[2];
    List<Integer> waiting = new ArrayList<>();

    All copy() {
      All c = new All();
      c.wide = wide.clone();
      for (int i = 0; i < 3; i++) {
        c.rain[i] = rain[i].clone();
      }
      c.things = things.clone();
      c.hour = hour;
      c.level = level;
      c.gate = gate;
      c.silt = silt;
      c.muffled = muffled;
      c.limit = limit;
      c.spilt = spilt;
      c.strain = strain;
      c.past = past;
      c.z = z;
      for (Kind one : fishers) {
        c.fishers.add(one.as(10 * one.number() + one.m));
      }
      c.book.putAll(book);
      c.tape = tape;
      c.texts = texts.clone();
      c.waiting.addAll(waiting);
      return c;
    }

    int flow() {
      int sum = 0;
      for (int i = 0; i < 3; i++) {
        sum += wide[i] * rain[i][hour % 24];
      }
      return sum;
    }

    int current() {
      int c = flow() - level / 60;
      return c < 0 ? 0 : c;
    }

    int strikes() {
      if (muffled == 1 || strain >= limit) {
        return 0;
      }
      return gives(0, current(), silt, level);
    }

    int note() {
      int s = strikes();
      return s == 0 ? 0 : (silt / 10 + s) % 9 + 1;
    }

    int gives(int use, int a, int b, int c) {
      String t = texts[use] != null ? texts[use] : use == 0 ? "c-4-s/10" : "g";
      int v = Texts.worth(t, use == 0 ? "csl" : "lfg", a, b, c);
      int most = use == 0 ? 20 : a;
      return v < 0 || most < 0 ? 0 : v > most ? most : v;
    }

    int tally(int note, int what) {
      return book.getOrDefault(note + ":" + what, 0);
    }

    int wants(Kind one) {
      int wet = tally(past, 1);
      int all = wet + tally(past, 0);
      return all == 0 ? held(one, one.wants(0, 1)) : held(one, one.wants(wet, all));
    }

    static int held(Kind one, int bid) {
      return bid < 0 ? 0 : bid > one.purse ? one.purse : bid;
    }

    boolean perceives(Kind one) {
      return strikes() > 0 && one.perceives(strikes(), note());
    }

    void pass() {
      int strikes = strikes();
      int note = note();
      int current = current();
      int flow = flow();
      for (Kind one : fishers) {
        one.latest = perceives(one) ? 1 : 0;
        one.heard = one.latest == 1 && one.heard < 9999 ? one.heard + 1 : one.heard;
      }
      if (hour > 0) {
        String key = past + ":" + (flow > 9 ? 1 : 0);
        book.merge(key, 1, (a, b) -> a >= 9999 ? 9999 : a + b);
      }
      past = note;
      if (strain < limit) {
        strain += current;
      }
      silt += rain[0][hour % 24] - strikes;
      silt = silt < 0 ? 0 : silt > 90 ? 90 : silt;
      level -= gives(1, level, flow, gate);
      level += flow;
      while (level > 600) {
        level--;
        spilt = spilt < 999999 ? spilt + 1 : spilt;
      }
      hour++;
    }

    void loose() {
      for (int i = 0; i < 3; i++) {
        z = z * 1103515245 + 12345;
        int now = rain[i][hour % 24] + (z >>> 8) % 3 - 1;
        rain[i][hour % 24] = now < 0 ? 0 : now > 9 ? 9 : now;
      }
      pass();
    }

    All ahead(int n) {
      All a = copy();
      for (int i = 0; i < n; i++) {
        a.pass();
      }
      return a;
    }

    int reading(int what) {
      int[] all = {flow(), current(), strikes(), note(), level, gate, silt, strain, strain < limit ? 1 : 0, spilt,
          past, muffled, limit};
      return all[what];
    }

    int trait(int i, int what) {
      Kind one = fishers.get(i);
      int[] all = {one.number(), one.m, one.far, one.purse, one.heard, one.latest, perceives(one) ? 1 : 0, wants(one)};
      return all[what];
    }
  }

  private static final int BEYOND = 1;
  private static final int NONE = 2;
  private static final int STATE = 3;
  private static final int FULL = 4;
  private static final int KIND = 5;

  private All all = new All();
  private All image;
  private int images;
  private final long[][] sheets = new long[4][];
  private final int[] bits = new int[4];
  private List<Integer> trace = new ArrayList<>();
  private final int[] told = new int[6];

  private int fail(int k) {
    told[k]++;
    return -1000000000 - k;
  }

  private static boolean in(int v, int low, int high) {
    return low <= v && v <= high;
  }

  private boolean nobody(int fisher) {
    return !in(fisher, 0, all.fishers.size() - 1);
  }

  int rain(int stream, int hour, int v) {
    if (!in(stream, 0, 2) || !in(hour, 0, 23) || !in(v, 0, 9)) {
      return fail(BEYOND);
    }
    int was = all.rain[stream][hour];
    all.rain[stream][hour] = v;
    return was;
  }

  int set(int what, int v) {
    int[] low = {1, 1, 1, 0, 0, 0, 0, 1};
    int[] high = {5, 5, 5, 600, 90, 90, 1, 99999};
    if (!in(what, 0, 7) || !in(v, low[what], high[what])) {
      return fail(BEYOND);
    }
    int[] now = {all.wide[0], all.wide[1], all.wide[2], all.level, all.gate, all.silt, all.muffled, all.limit};
    int was = now[what];
    now[what] = v;
    System.arraycopy(now, 0, all.wide, 0, 3);
    all.level = now[3];
    all.gate = now[4];
    all.silt = now[5];
    all.muffled = now[6];
    all.limit = now[7];
    return was;
  }

  int now(int what) {
    return in(what, 0, 12) ? all.reading(what) : fail(BEYOND);
  }

  int led(int hour) {
    if (!in(hour, 0, 23)) {
      return fail(BEYOND);
    }
    for (int most = 45; most > 0; most--) {
      for (int i = 0; i < 3; i++) {
        if (all.rain[i][hour] * all.wide[i] == most) {
          return i;
        }
      }
    }
    return fail(NONE);
  }

  int thing(int thing, int high) {
    if (!in(thing, 0, 5) || !in(high, 0, 600)) {
      return fail(BEYOND);
    }
    int was = all.things[thing];
    all.things[thing] = high;
    return was;
  }

  int shows() {
    int bits = 0;
    for (int i = 0; i < 6; i++) {
      bits += all.things[i] > all.level ? (int) Math.pow(2, i) : 0;
    }
    return bits;
  }

  int fisher(int km, int far) {
    if (!in(km, 0, 69) || !in(far, 0, 99)) {
      return fail(BEYOND);
    }
    if (all.fishers.size() == 8) {
      return fail(FULL);
    }
    Kind one = Kind.of(km, all.fishers.size());
    one.far = far;
    all.fishers.add(one);
    return one.n;
  }

  int ofFisher(int fisher, int what) {
    return nobody(fisher) || !in(what, 0, 7) ? fail(BEYOND) : all.trait(fisher, what);
  }

  int change(int fisher, int what, int v) {
    if (nobody(fisher) || !in(what, 2, 3) || !in(v, 0, what == 2 ? 99 : 9999)) {
      return fail(BEYOND);
    }
    int was = all.trait(fisher, what);
    if (what == 2) {
      all.fishers.get(fisher).far = v;
    } else {
      all.fishers.get(fisher).purse = v;
    }
    return was;
  }

  int become(int fisher, int km) {
    if (nobody(fisher) || !in(km, 0, 69)) {
      return fail(BEYOND);
    }
    Kind was = all.fishers.set(fisher, all.fishers.get(fisher).as(km));
    return was.number();
  }

  int as(int fisher, int kind) {
    if (nobody(fisher) || !in(kind, 0, 6)) {
      return fail(BEYOND);
    }
    Kind one = all.fishers.get(fisher);
    boolean is = Kind.of(10 * kind, 0).getClass().isInstance(one);
    return is ? one.m : fail(KIND);
  }

  int bids(int fisher, int a, int b) {
    if (nobody(fisher) || !in(a, 0, 999) || !in(b, 1, 999)) {
      return fail(BEYOND);
    }
    Kind one = all.fishers.get(fisher);
    return All.held(one, one.wants(a, b));
  }

  int sell() {
    List<Kind> order = new ArrayList<>();
    for (Kind one : all.fishers) {
      if (one.latest == 1) {
        order.add(one);
      }
    }
    order.sort((p, q) -> all.wants(p) != all.wants(q) ? all.wants(q) - all.wants(p) : p.n - q.n);
    if (order.isEmpty() || all.wants(order.get(0)) < 1) {
      return fail(NONE);
    }
    order.get(0).purse -= order.size() > 1 ? all.wants(order.get(1)) : 0;
    return order.get(0).n;
  }

  int feed(long word, int n) {
    if (!in(n, 1, 8)) {
      return fail(BEYOND);
    }
    if (all.tape.length() + n > 50) {
      return fail(FULL);
    }
    for (int i = 0; i < n; i++) {
      all.tape += (char) (word & 255);
      word >>= 8;
    }
    return all.tape.length();
  }

  int text(int use) {
    if (!in(use, 0, 1)) {
      return fail(BEYOND);
    }
    String t = all.tape;
    all.tape = "";
    int fault = Texts.fault(t, use == 0 ? "csl" : "lfg");
    if (fault >= 0) {
      return -10 - fault;
    }
    all.texts[use] = t;
    return 1;
  }

  int law(int use, int a, int b, int c) {
    return in(use, 0, 1) ? all.gives(use, a, b, c) : fail(BEYOND);
  }

  private int go(int n, boolean loose) {
    if (!in(n, 1, 240)) {
      return fail(BEYOND);
    }
    if (all.hour > 9999 - n) {
      return fail(STATE);
    }
    for (int i = 0; i < n; i++) {
      if (loose) {
        all.loose();
      } else {
        all.pass();
      }
    }
    return all.level;
  }

  int hours(int n) {
    return go(n, false);
  }

  int loose(int n) {
    return go(n, true);
  }

  int then(int n, int what) {
    return in(n, 0, 240) && in(what, 0, 12) ? all.ahead(n).reading(what) : fail(BEYOND);
  }

  int thenFisher(int n, int fisher, int what) {
    return in(n, 0, 240) && !nobody(fisher) && in(what, 0, 7) ? all.ahead(n).trait(fisher, what) : fail(BEYOND);
  }

  int falls(int n) {
    if (!in(n, 0, 240)) {
      return fail(BEYOND);
    }
    All a = all.copy();
    for (int k = 0; k <= n; k++, a.pass()) {
      if (a.reading(8) == 0) {
        return k;
      }
    }
    return fail(NONE);
  }

  int book(int note, int what) {
    return in(note, 0, 9) && in(what, 0, 1) ? all.tally(note, what) : fail(BEYOND);
  }

  long odds(int note, int part) {
    if (!in(note, 0, 9) || !in(part, 0, 1)) {
      return fail(BEYOND);
    }
    int above = all.tally(note, 1);
    int below = above + all.tally(note, 0);
    if (above == 0) {
      return part;
    }
    for (int d = above; d > 1; d--) {
      if (above % d == 0 && below % d == 0) {
        return part == 0 ? above / d : below / d;
      }
    }
    return part == 0 ? above : below;
  }

  int gateFor(int low, int high, int n) {
    if (!in(low, 0, 600) || !in(high, 0, 600) || low > high || !in(n, 1, 48)) {
      return fail(BEYOND);
    }
    for (int gate = 0; gate <= 90; gate++) {
      All a = all.copy();
      a.gate = gate;
      int k = 0;
      do {
        a.pass();
        k++;
      } while (k <= n && in(a.level, low, high));
      if (k > n) {
        return gate;
      }
    }
    return fail(NONE);
  }

  int shown(int thing, int n) {
    if (!in(thing, 0, 5) || !in(n, 0, 240)) {
      return fail(BEYOND);
    }
    All a = all.copy();
    for (int k = 0; k <= n; k++, a.pass()) {
      if (a.level < all.things[thing]) {
        return k;
      }
    }
    return fail(NONE);
  }

  int seed(int v) {
    int was = all.z;
    all.z = v;
    return was;
  }

  int voice(int fisher, int act, int x) {
    if (nobody(fisher) || !in(act, 0, 3)) {
      return fail(BEYOND);
    }
    Kind one = all.fishers.get(fisher);
    one.trace = new ArrayList<>();
    int v = act == 0 ? one.hears(x) : act == 1 ? one.bids(x) : act == 2 ? one.rows(x) : one.tells(x);
    trace = one.trace;
    return v;
  }

  int trace(int i) {
    return in(i, 0, Math.min(40, trace.size()) - 1) ? trace.get(i) : fail(NONE);
  }

  int sheet(int sheet, int bits, int n) {
    if (!in(sheet, 0, 3) || bits != 0 && bits != 8 && bits != 16 && bits != 32) {
      return fail(BEYOND);
    }
    if (bits == 0) {
      sheets[sheet] = null;
      return 1;
    }
    if (n < 0) {
      return fail(STATE);
    }
    if (n > 40) {
      return fail(BEYOND);
    }
    sheets[sheet] = new long[n];
    this.bits[sheet] = bits;
    return 1;
  }

  int put(int sheet, int i, int v) {
    if (!in(sheet, 0, 3)) {
      return fail(BEYOND);
    }
    if (sheets[sheet] == null) {
      return fail(NONE);
    }
    if (!in(i, 0, sheets[sheet].length - 1)) {
      return fail(BEYOND);
    }
    sheets[sheet][i] = v & (1L << bits[sheet]) - 1;
    return 1;
  }

  int move(int sheet, int i, int other, int j, int n) {
    if (!in(sheet, 0, 3) || !in(other, 0, 3)) {
      return fail(BEYOND);
    }
    if (sheets[sheet] == null || sheets[other] == null) {
      return fail(NONE);
    }
    if (bits[sheet] != bits[other]) {
      return fail(KIND);
    }
    if (n < 0 || i < 0 || j < 0 || (long) i + n > sheets[sheet].length || (long) j + n > sheets[other].length) {
      return fail(BEYOND);
    }
    long[] were = sheets[sheet].clone();
    for (int k = 0; k < n; k++) {
      sheets[other][j + k] = were[i + k];
    }
    return n;
  }

  int rains(int sheet, int stream) {
    if (!in(sheet, 0, 3) || !in(stream, 0, 2)) {
      return fail(BEYOND);
    }
    if (sheets[sheet] == null) {
      return fail(NONE);
    }
    int came = 0;
    for (long v : sheets[sheet]) {
      if (came == 24 || v < 0 || v > 9) {
        break;
      }
      all.rain[stream][came] = (int) v;
      came++;
    }
    return came;
  }

  int judge(int sheet) {
    if (!in(sheet, 0, 3)) {
      return fail(BEYOND);
    }
    if (sheets[sheet] == null) {
      return fail(NONE);
    }
    for (int i = 0; i < sheets[sheet].length; i++) {
      if (sheets[sheet][i] != all.ahead(i).note()) {
        return i;
      }
    }
    return sheets[sheet].length;
  }

  int image() {
    image = all.copy();
    return ++images;
  }

  int restore() {
    if (image == null) {
      return fail(NONE);
    }
    all = image.copy();
    return all.hour;
  }

  int tell(int v) {
    if (all.waiting.size() >= 20) {
      return fail(FULL);
    }
    all.waiting.add(v);
    return all.waiting.size();
  }

  int check() {
    List<Integer> levels = all.waiting;
    all.waiting = new ArrayList<>();
    for (int i = 0; i < levels.size(); i++) {
      if (levels.get(i) != all.ahead(i + 1).level) {
        return i + 1;
      }
    }
    return 0;
  }

  int count(int what) {
    int heard = 0;
    int purses = 0;
    for (Kind one : all.fishers) {
      heard += one.heard;
      purses += one.purse;
    }
    int[] counts = {all.hour, all.fishers.size(), heard, purses, all.tape.length(), all.waiting.size(),
        Math.min(40, trace.size()), all.z};
    return in(what, 0, 7) ? counts[what] : fail(BEYOND);
  }

  int told(int k) {
    return in(k, 1, 5) ? told[k] : fail(BEYOND);
  }
}
