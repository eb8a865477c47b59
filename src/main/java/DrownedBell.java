import java.util.Arrays;

/** Bells under water: see ../shared/DOC.md; the words in capitals are those of its Terms. */
public final class DrownedBell {
  private static final int LOW = -1000000000;
  private static final int BEYOND = 1;
  private static final int NONE = 2;
  private static final int STATE = 3;
  private static final int FULL = 4;
  private static final int KIND = 5;

  private static final int STREAMS = 3;
  private static final int DAY = 24;
  private static final int RAIN_MOST = 9;
  private static final int WIDE_MOST = 5;
  private static final int LEVEL_MOST = 600;
  private static final int GATE_MOST = 90;
  private static final int SILT_MOST = 90;
  private static final int SPILT_MOST = 999999;
  private static final int LIMIT_MOST = 99999;
  private static final int HOUR_MOST = 9999;
  private static final int AT_ONCE = 240;
  private static final int GATE_HOURS = 48;
  private static final int STRIKES_MOST = 20;
  private static final int NOTES = 10;
  private static final int TALLY_MOST = 9999;
  private static final int WET_FLOW = 10;
  /** Far above what two numbers below 20000 need. */
  private static final int GCD_TURNS = 100;
  private static final int THINGS = 6;
  private static final int READINGS = 13;

  private static final int FISHERS = 8;
  private static final int KINDS = 7;
  private static final int KM_MOST = 69;
  private static final int FAR_MOST = 99;
  private static final int PURSE_MOST = 9999;
  private static final int TRAITS = 8;
  private static final int ODDS_MOST = 999;
  private static final int TRAIT_FAR = 2;
  private static final int TRAIT_PURSE = 3;

  private static final int FISHER = 0;
  private static final int ANGLER = 1;
  private static final int DEAF = 2;
  private static final int OLD = 3;
  private static final int GREEDY = 4;
  private static final int STONE = 5;
  private static final int DIVER = 6;
  private static final int[] KIND_ABOVE = {-1, FISHER, FISHER, FISHER, ANGLER, DEAF, OLD};

  private static final int ACTS = 4;
  private static final int HEARS = 0;
  private static final int BIDS = 1;
  private static final int ROWS = 2;
  private static final int TELLS = 3;
  /** By KIND, then by act; 0: the KIND has no BODY of its own. */
  private static final int[] BODIES = {
    10, 11, 12, 13,
    0, 20, 0, 0,
    30, 0, 0, 0,
    0, 0, 40, 0,
    0, 50, 0, 0,
    0, 0, 0, 60,
    0, 0, 70, 71
  };
  private static final int TRACE_MOST = 40;
  private static final int VOICE_DEPTH = 40;

  private static final int RINGS = 0;
  private static final int USES = 2;
  private static final String RINGS_NAMES = "csl";
  private static final String LETS_NAMES = "lfg";
  private static final int TAPE_MOST = 50;
  private static final int WORD_BYTES = 8;
  private static final int OPEN_MOST = 5;
  private static final int DIGITS_MOST = 4;
  private static final int FAULTS_BELOW = -10;

  private static final int SHEETS = 4;
  private static final int SHEET_MOST = 40;
  private static final int WAIT_MOST = 20;
  private static final int COUNTS = 8;

  private final World here = new World();
  /** AHEAD is worked out in here, so that no call has to make a world. */
  private final World ahead = new World();
  private final World kept = new World();
  private final Reader reader = new Reader();
  private final Voices voices = new Voices();
  private final Sheet[] sheets = new Sheet[SHEETS];
  private final int[] errors = new int[KIND + 1];
  private int images;

  public DrownedBell() {
    for (int i = 0; i < SHEETS; i++) {
      sheets[i] = new Sheet();
    }
  }

  private static boolean within(int v, int low, int high) {
    return v >= low && v <= high;
  }

  /** Where high is below low, low wins: a LET of a LEVEL below 0 is 0. */
  private static int held(int v, int low, int high) {
    return Math.max(low, Math.min(v, high));
  }

  private int fail(int error) {
    if (within(error, BEYOND, KIND)) {
      errors[error]++;
    }
    return LOW - error;
  }

  private void goAhead(int n) {
    ahead.copyOf(here);
    for (int i = 0; i < n; i++) {
      ahead.passHour();
    }
  }

  private Sheet sheetAt(int sheet) {
    return within(sheet, 0, SHEETS - 1) ? sheets[sheet] : null;
  }

  // ---- streams, lake, tower

  public int rain(int stream, int hour, int v) {
    if (!within(stream, 0, STREAMS - 1) || !within(hour, 0, DAY - 1) || !within(v, 0, RAIN_MOST)) {
      return fail(BEYOND);
    }
    int was = here.streams.rainAt(stream, hour);
    here.streams.putRain(stream, hour, v);
    return was;
  }

  public int set(int what, int v) {
    if (!World.maySet(what, v)) {
      return fail(BEYOND);
    }
    int was = here.setting(what);
    here.putSetting(what, v);
    return was;
  }

  public int now(int what) {
    if (!within(what, 0, READINGS - 1)) {
      return fail(BEYOND);
    }
    return here.reading(what);
  }

  public int led(int hour) {
    if (!within(hour, 0, DAY - 1)) {
      return fail(BEYOND);
    }
    int stream = here.streams.leading(hour);
    return stream < 0 ? fail(NONE) : stream;
  }

  public int thing(int thing, int high) {
    if (!within(thing, 0, THINGS - 1) || !within(high, 0, LEVEL_MOST)) {
      return fail(BEYOND);
    }
    int was = here.high[thing];
    here.high[thing] = high;
    return was;
  }

  public int shows() {
    int bits = 0;
    for (int i = 0; i < THINGS; i++) {
      if (here.thingShows(i)) {
        bits |= 1 << i;
      }
    }
    return bits;
  }

  // ---- fishers

  public int fisher(int km, int far) {
    if (!within(km, 0, KM_MOST) || !within(far, 0, FAR_MOST)) {
      return fail(BEYOND);
    }
    int number = here.people;
    if (!within(number, 0, FISHERS - 1)) {
      return fail(FULL);
    }
    here.fishers[number].begin(km, far);
    here.people = number + 1;
    return number;
  }

  public int ofFisher(int fisher, int what) {
    Fisher one = here.fisherAt(fisher);
    if (one == null || !within(what, 0, TRAITS - 1)) {
      return fail(BEYOND);
    }
    return here.trait(one, what);
  }

  public int change(int fisher, int what, int v) {
    Fisher one = here.fisherAt(fisher);
    if (one == null) {
      return fail(BEYOND);
    }
    if (what == TRAIT_FAR && within(v, 0, FAR_MOST)) {
      int was = one.far;
      one.far = v;
      return was;
    }
    if (what == TRAIT_PURSE && within(v, 0, PURSE_MOST)) {
      int was = one.purse;
      one.purse = v;
      return was;
    }
    return fail(BEYOND);
  }

  public int become(int fisher, int km) {
    Fisher one = here.fisherAt(fisher);
    if (one == null || !within(km, 0, KM_MOST)) {
      return fail(BEYOND);
    }
    int was = one.kind;
    one.turnInto(km);
    return was;
  }

  public int as(int fisher, int kind) {
    Fisher one = here.fisherAt(fisher);
    if (one == null || !within(kind, 0, KINDS - 1)) {
      return fail(BEYOND);
    }
    return one.isOf(kind) ? one.m : fail(KIND);
  }

  public int bids(int fisher, int a, int b) {
    Fisher one = here.fisherAt(fisher);
    if (one == null || !within(a, 0, ODDS_MOST) || !within(b, 1, ODDS_MOST)) {
      return fail(BEYOND);
    }
    return one.bidAt(a, b);
  }

  public int sell() {
    Fisher buyer = null;
    int number = 0;
    int most = 0;
    int price = 0;
    for (int i = 0; i < here.people; i++) {
      Fisher one = here.fisherAt(i);
      int bid = one == null || one.latest == 0 ? 0 : here.bidNow(one);
      if (bid > most) {
        buyer = one;
        number = i;
        price = most;
        most = bid;
      } else if (bid > price) {
        price = bid;
      }
    }
    if (buyer == null) {
      return fail(NONE);
    }
    buyer.purse -= price;
    return number;
  }

  // ---- texts

  public int feed(long word, int n) {
    if (!within(n, 1, WORD_BYTES)) {
      return fail(BEYOND);
    }
    if (here.tape.size + n > TAPE_MOST) {
      return fail(FULL);
    }
    here.tape.append(word, n);
    return here.tape.size;
  }

  public int text(int use) {
    if (!within(use, 0, USES - 1)) {
      return fail(BEYOND);
    }
    int fault = reader.faultOf(here.tape, use == RINGS ? RINGS_NAMES : LETS_NAMES);
    here.tape.size = 0;
    if (fault >= 0) {
      return FAULTS_BELOW - fault;
    }
    (use == RINGS ? here.rings : here.lets).copyOf(reader.draft);
    return 1;
  }

  public int law(int use, int a, int b, int c) {
    if (!within(use, 0, USES - 1)) {
      return fail(BEYOND);
    }
    return use == RINGS ? here.rung(a, b, c) : here.letOut(a, b, c);
  }

  // ---- hours

  public int hours(int n) {
    return passHours(n, false);
  }

  public int loose(int n) {
    return passHours(n, true);
  }

  private int passHours(int n, boolean byDraws) {
    if (!within(n, 1, AT_ONCE)) {
      return fail(BEYOND);
    }
    if (here.hour + n > HOUR_MOST) {
      return fail(STATE);
    }
    for (int i = 0; i < n; i++) {
      if (byDraws) {
        here.loosen();
      }
      here.passHour();
    }
    return here.level;
  }

  // ---- ahead, the book

  public int then(int n, int what) {
    if (!within(n, 0, AT_ONCE) || !within(what, 0, READINGS - 1)) {
      return fail(BEYOND);
    }
    goAhead(n);
    return ahead.reading(what);
  }

  public int thenFisher(int n, int fisher, int what) {
    if (!within(n, 0, AT_ONCE) || here.fisherAt(fisher) == null || !within(what, 0, TRAITS - 1)) {
      return fail(BEYOND);
    }
    goAhead(n);
    Fisher one = ahead.fisherAt(fisher);
    return one == null ? fail(BEYOND) : ahead.trait(one, what);
  }

  public int falls(int n) {
    if (!within(n, 0, AT_ONCE)) {
      return fail(BEYOND);
    }
    ahead.copyOf(here);
    for (int k = 0; k <= n; k++) {
      if (!ahead.stands()) {
        return k;
      }
      ahead.passHour();
    }
    return fail(NONE);
  }

  public int book(int note, int what) {
    if (!within(note, 0, NOTES - 1) || !within(what, 0, 1)) {
      return fail(BEYOND);
    }
    return what == 0 ? here.ledger.dry[note] : here.ledger.wet[note];
  }

  public long odds(int note, int part) {
    if (!within(note, 0, NOTES - 1) || !within(part, 0, 1)) {
      return fail(BEYOND);
    }
    return part == 0 ? here.ledger.above(note) : here.ledger.below(note);
  }

  public int gateFor(int low, int high, int n) {
    if (!within(low, 0, LEVEL_MOST) || !within(high, low, LEVEL_MOST) || !within(n, 1, GATE_HOURS)) {
      return fail(BEYOND);
    }
    for (int gate = 0; gate <= GATE_MOST; gate++) {
      if (gateKeeps(gate, low, high, n)) {
        return gate;
      }
    }
    return fail(NONE);
  }

  private boolean gateKeeps(int gate, int low, int high, int n) {
    ahead.copyOf(here);
    ahead.gate = gate;
    for (int i = 0; i < n; i++) {
      ahead.passHour();
      if (!within(ahead.level, low, high)) {
        return false;
      }
    }
    return true;
  }

  public int shown(int thing, int n) {
    if (!within(thing, 0, THINGS - 1) || !within(n, 0, AT_ONCE)) {
      return fail(BEYOND);
    }
    ahead.copyOf(here);
    for (int k = 0; k <= n; k++) {
      if (ahead.thingShows(thing)) {
        return k;
      }
      ahead.passHour();
    }
    return fail(NONE);
  }

  // ---- draws, voices, sheets, images, what is told

  public int seed(int v) {
    int was = here.z;
    here.z = v;
    return was;
  }

  public int voice(int fisher, int act, int x) {
    Fisher one = here.fisherAt(fisher);
    if (one == null || !within(act, 0, ACTS - 1)) {
      return fail(BEYOND);
    }
    return voices.speak(one, fisher, act, x);
  }

  public int trace(int i) {
    if (!within(i, 0, voices.size - 1)) {
      return fail(NONE);
    }
    return voices.begun[i];
  }

  public int sheet(int sheet, int bits, int n) {
    Sheet one = sheetAt(sheet);
    if (one == null || bits != 0 && bits != 8 && bits != 16 && bits != 32) {
      return fail(BEYOND);
    }
    if (bits != 0 && n < 0) {
      return fail(STATE);
    }
    if (bits != 0 && n > SHEET_MOST) {
      return fail(BEYOND);
    }
    one.lay(bits, bits == 0 ? 0 : n);
    return 1;
  }

  public int put(int sheet, int i, int v) {
    Sheet one = sheetAt(sheet);
    if (one == null) {
      return fail(BEYOND);
    }
    if (one.isMissing()) {
      return fail(NONE);
    }
    if (!within(i, 0, one.size - 1)) {
      return fail(BEYOND);
    }
    one.cells[i] = one.lowest(v);
    return 1;
  }

  public int move(int sheet, int i, int other, int j, int n) {
    Sheet from = sheetAt(sheet);
    Sheet to = sheetAt(other);
    if (from == null || to == null) {
      return fail(BEYOND);
    }
    if (from.isMissing() || to.isMissing()) {
      return fail(NONE);
    }
    if (from.bits != to.bits) {
      return fail(KIND);
    }
    if (!from.holds(i, n) || !to.holds(j, n)) {
      return fail(BEYOND);
    }
    System.arraycopy(from.cells, i, to.cells, j, n);
    return n;
  }

  public int rains(int sheet, int stream) {
    Sheet one = sheetAt(sheet);
    if (one == null || !within(stream, 0, STREAMS - 1)) {
      return fail(BEYOND);
    }
    if (one.isMissing()) {
      return fail(NONE);
    }
    int came = 0;
    while (came < DAY && came < one.size && within(one.cells[came], 0, RAIN_MOST)) {
      here.streams.putRain(stream, came, one.cells[came]);
      came++;
    }
    return came;
  }

  public int judge(int sheet) {
    Sheet one = sheetAt(sheet);
    if (one == null) {
      return fail(BEYOND);
    }
    if (one.isMissing()) {
      return fail(NONE);
    }
    ahead.copyOf(here);
    for (int i = 0; i < one.size; i++) {
      if (one.cells[i] != ahead.noteOf(ahead.strikes())) {
        return i;
      }
      ahead.passHour();
    }
    return one.size;
  }

  public int image() {
    kept.copyOf(here);
    images++;
    return images;
  }

  public int restore() {
    if (images == 0) {
      return fail(NONE);
    }
    here.copyOf(kept);
    return here.hour;
  }

  public int tell(int v) {
    int waits = here.waits;
    if (!within(waits, 0, WAIT_MOST - 1)) {
      return fail(FULL);
    }
    here.waiting[waits] = v;
    here.waits = waits + 1;
    return here.waits;
  }

  public int check() {
    int waits = here.waits;
    here.waits = 0;
    ahead.copyOf(here);
    for (int i = 0; i < waits && i < WAIT_MOST; i++) {
      ahead.passHour();
      if (here.waiting[i] != ahead.level) {
        return 1 + i;
      }
    }
    return 0;
  }

  public int count(int what) {
    if (!within(what, 0, COUNTS - 1)) {
      return fail(BEYOND);
    }
    switch (what) {
      case 0:
        return here.hour;
      case 1:
        return here.people;
      case 2:
        return here.heardOfAll();
      case 3:
        return here.pursesOfAll();
      case 4:
        return here.tape.size;
      case 5:
        return here.waits;
      case 6:
        return voices.size;
      default:
        return here.z;
    }
  }

  public int told(int k) {
    if (!within(k, BEYOND, KIND)) {
      return fail(BEYOND);
    }
    return errors[k];
  }

  /** All that an IMAGE keeps. */
  private static final class World {
    final Streams streams = new Streams();
    final Ledger ledger = new Ledger();
    final Formula rings = new Formula();
    final Formula lets = new Formula();
    final Tape tape = new Tape();
    final Fisher[] fishers = new Fisher[FISHERS];
    int people;
    final int[] high = {100, 200, 300, 400, 500, 600};
    final int[] waiting = new int[WAIT_MOST];
    int waits;
    int hour;
    int level = 300;
    int gate = 5;
    int spilt;
    int silt;
    int muffled;
    int strain;
    int limit = 500;
    int z = 1;

    World() {
      for (int i = 0; i < FISHERS; i++) {
        fishers[i] = new Fisher();
      }
    }

    void copyOf(World other) {
      streams.copyOf(other.streams);
      ledger.copyOf(other.ledger);
      rings.copyOf(other.rings);
      lets.copyOf(other.lets);
      tape.copyOf(other.tape);
      for (int i = 0; i < FISHERS; i++) {
        fishers[i].copyOf(other.fishers[i]);
      }
      people = other.people;
      System.arraycopy(other.high, 0, high, 0, THINGS);
      System.arraycopy(other.waiting, 0, waiting, 0, WAIT_MOST);
      waits = other.waits;
      hour = other.hour;
      level = other.level;
      gate = other.gate;
      spilt = other.spilt;
      silt = other.silt;
      muffled = other.muffled;
      strain = other.strain;
      limit = other.limit;
      z = other.z;
    }

    static boolean maySet(int what, int v) {
      switch (what) {
        case 0:
        case 1:
        case 2:
          return within(v, 1, WIDE_MOST);
        case 3:
          return within(v, 0, LEVEL_MOST);
        case 4:
          return within(v, 0, GATE_MOST);
        case 5:
          return within(v, 0, SILT_MOST);
        case 6:
          return within(v, 0, 1);
        case 7:
          return within(v, 1, LIMIT_MOST);
        default:
          return false;
      }
    }

    int setting(int what) {
      switch (what) {
        case 3:
          return level;
        case 4:
          return gate;
        case 5:
          return silt;
        case 6:
          return muffled;
        case 7:
          return limit;
        default:
          return within(what, 0, STREAMS - 1) ? streams.wide[what] : 0;
      }
    }

    void putSetting(int what, int v) {
      switch (what) {
        case 3:
          level = v;
          break;
        case 4:
          gate = v;
          break;
        case 5:
          silt = v;
          break;
        case 6:
          muffled = v;
          break;
        case 7:
          limit = v;
          break;
        default:
          if (within(what, 0, STREAMS - 1)) {
            streams.wide[what] = v;
          }
      }
    }

    int reading(int what) {
      switch (what) {
        case 0:
          return flow();
        case 1:
          return currentOf(flow());
        case 2:
          return strikes();
        case 3:
          return noteOf(strikes());
        case 4:
          return level;
        case 5:
          return gate;
        case 6:
          return silt;
        case 7:
          return strain;
        case 8:
          return stands() ? 1 : 0;
        case 9:
          return spilt;
        case 10:
          return ledger.past;
        case 11:
          return muffled;
        default:
          return limit;
      }
    }

    int hourOfDay() {
      return Math.floorMod(hour, DAY);
    }

    int flow() {
      return streams.flowAt(hourOfDay());
    }

    int currentOf(int flow) {
      return Math.max(0, flow - level / 60);
    }

    boolean stands() {
      return strain < limit;
    }

    int strikes() {
      return strikesBy(currentOf(flow()));
    }

    int strikesBy(int current) {
      return muffled != 0 || !stands() ? 0 : rung(current, silt, level);
    }

    int noteOf(int strikes) {
      return strikes == 0 ? 0 : 1 + (silt / 10 + strikes) % 9;
    }

    int rung(int current, int mud, int height) {
      int v = rings.isText() ? rings.worth(current, mud, height) : current - 4 - mud / 10;
      return held(v, 0, STRIKES_MOST);
    }

    int letOut(int height, int flow, int opened) {
      int v = lets.isText() ? lets.worth(height, flow, opened) : opened;
      return held(v, 0, height);
    }

    boolean thingShows(int thing) {
      return within(thing, 0, THINGS - 1) && high[thing] > level;
    }

    void passHour() {
      int flow = flow();
      int current = currentOf(flow);
      int strikes = strikesBy(current);
      int note = noteOf(strikes);
      for (int i = 0; i < people && i < FISHERS; i++) {
        fishers[i].hark(strikes, note);
      }
      if (hour != 0) {
        ledger.add(flow);
      }
      ledger.past = note;
      if (stands()) {
        strain += current;
      }
      silt = held(silt + streams.rainAt(0, hourOfDay()) - strikes, 0, SILT_MOST);
      int risen = level - letOut(level, flow, gate) + flow;
      level = Math.min(risen, LEVEL_MOST);
      spilt = Math.min(spilt + risen - level, SPILT_MOST);
      hour++;
    }

    void loosen() {
      int at = hourOfDay();
      for (int stream = 0; stream < STREAMS; stream++) {
        z = z * 1103515245 + 12345;
        int drawn = (z >>> 8) % 3 - 1;
        streams.putRain(stream, at, held(streams.rainAt(stream, at) + drawn, 0, RAIN_MOST));
      }
    }

    Fisher fisherAt(int number) {
      return within(number, 0, people - 1) && number < FISHERS ? fishers[number] : null;
    }

    boolean hearsNow(Fisher one) {
      int strikes = strikes();
      return one.hearsIt(strikes, noteOf(strikes));
    }

    int bidNow(Fisher one) {
      return one.bidAt(ledger.above(ledger.past), ledger.below(ledger.past));
    }

    int trait(Fisher one, int what) {
      switch (what) {
        case 0:
          return one.kind;
        case 1:
          return one.m;
        case TRAIT_FAR:
          return one.far;
        case TRAIT_PURSE:
          return one.purse;
        case 4:
          return one.heard;
        case 5:
          return one.latest;
        case 6:
          return hearsNow(one) ? 1 : 0;
        default:
          return bidNow(one);
      }
    }

    int heardOfAll() {
      int sum = 0;
      for (int i = 0; i < people && i < FISHERS; i++) {
        sum += fishers[i].heard;
      }
      return sum;
    }

    int pursesOfAll() {
      int sum = 0;
      for (int i = 0; i < people && i < FISHERS; i++) {
        sum += fishers[i].purse;
      }
      return sum;
    }
  }

  private static final class Streams {
    final int[] wide = {2, 2, 2};
    /** STREAM by STREAM, DAY numbers each. */
    private final int[] drops = new int[STREAMS * DAY];

    void copyOf(Streams other) {
      System.arraycopy(other.wide, 0, wide, 0, STREAMS);
      System.arraycopy(other.drops, 0, drops, 0, STREAMS * DAY);
    }

    int rainAt(int stream, int hour) {
      int at = stream * DAY + hour;
      return within(at, 0, STREAMS * DAY - 1) ? drops[at] : 0;
    }

    void putRain(int stream, int hour, int v) {
      int at = stream * DAY + hour;
      if (within(at, 0, STREAMS * DAY - 1)) {
        drops[at] = v;
      }
    }

    int flowAt(int hour) {
      int sum = 0;
      for (int stream = 0; stream < STREAMS; stream++) {
        sum += rainAt(stream, hour) * wide[stream];
      }
      return sum;
    }

    int leading(int hour) {
      int most = 0;
      int best = -1;
      for (int stream = 0; stream < STREAMS; stream++) {
        int brought = rainAt(stream, hour) * wide[stream];
        if (brought > most) {
          most = brought;
          best = stream;
        }
      }
      return best;
    }
  }

  /** THE BOOK. */
  private static final class Ledger {
    final int[] dry = new int[NOTES];
    final int[] wet = new int[NOTES];
    int past;

    void copyOf(Ledger other) {
      past = other.past;
      System.arraycopy(other.dry, 0, dry, 0, NOTES);
      System.arraycopy(other.wet, 0, wet, 0, NOTES);
    }

    void add(int flow) {
      int[] side = flow >= WET_FLOW ? wet : dry;
      if (within(past, 0, NOTES - 1) && side[past] < TALLY_MOST) {
        side[past]++;
      }
    }

    int above(int note) {
      return within(note, 0, NOTES - 1) ? reduced(wet[note], wet[note], dry[note]) : 0;
    }

    int below(int note) {
      return within(note, 0, NOTES - 1) ? Math.max(1, reduced(wet[note] + dry[note], wet[note], dry[note])) : 1;
    }

    /** By what two numbers have in common, which their sum has, too. */
    private static int reduced(int v, int one, int other) {
      int a = one;
      int b = other;
      for (int i = 0; i < GCD_TURNS && b > 0; i++) {
        int rest = a % b;
        a = b;
        b = rest;
      }
      return a > 0 ? v / a : 0;
    }
  }

  private static final class Fisher {
    int kind;
    int m;
    int far;
    int purse;
    int heard;
    int latest;

    void begin(int km, int away) {
      turnInto(km);
      far = away;
      purse = 20;
      heard = 0;
      latest = 0;
    }

    void turnInto(int km) {
      kind = km / 10;
      m = km % 10;
    }

    void copyOf(Fisher other) {
      kind = other.kind;
      m = other.m;
      far = other.far;
      purse = other.purse;
      heard = other.heard;
      latest = other.latest;
    }

    boolean isOf(int wanted) {
      int k = kind;
      for (int i = 0; i < KINDS && within(k, 0, KINDS - 1); i++) {
        if (k == wanted) {
          return true;
        }
        k = KIND_ABOVE[k];
      }
      return false;
    }

    void hark(int strikes, int note) {
      latest = hearsIt(strikes, note) ? 1 : 0;
      heard = Math.min(heard + latest, TALLY_MOST);
    }

    boolean hearsIt(int strikes, int note) {
      if (strikes == 0) {
        return false;
      }
      int loud = 10 * strikes - far;
      switch (kind) {
        case ANGLER:
          return loud > m;
        case DEAF:
          return loud >= 50;
        case OLD:
          return loud > 0 && note % 2 == 1;
        case GREEDY:
          return loud > m || note == m;
        case STONE:
          return strikes >= 9 + m;
        case DIVER:
          return true;
        default:
          return loud > 0;
      }
    }

    int bidAt(int a, int b) {
      int plain = b == 0 ? 0 : 10 * a / b;
      return held(wish(plain), 0, purse);
    }

    private int wish(int plain) {
      switch (kind) {
        case ANGLER:
          return plain + m;
        case DEAF:
          return 0;
        case OLD:
          return plain / 2;
        case GREEDY:
          return 2 * (plain + m);
        case STONE:
          return 1;
        case DIVER:
          return plain / 2 + m;
        default:
          return plain;
      }
    }
  }

  private static final class Tape {
    private final int[] bytes = new int[TAPE_MOST];
    int size;

    void copyOf(Tape other) {
      System.arraycopy(other.bytes, 0, bytes, 0, TAPE_MOST);
      size = other.size;
    }

    void append(long word, int n) {
      for (int i = 0; i < n && size < TAPE_MOST; i++) {
        bytes[size] = (int) (word >>> (8 * i)) & 255;
        size++;
      }
    }

    /** -1 behind the last byte, which no TEXT holds. */
    int byteAt(int i) {
      return within(i, 0, size - 1) && i < TAPE_MOST ? bytes[i] : -1;
    }
  }

  /**
   * A TEXT, worked out beforehand into steps that need no recursion: a number of 0 or more is put
   * on the pile, -1, -2, -3 put the NAMES, and the sign of an operator below 0 joins what lies on top.
   */
  private static final class Formula {
    private static final int LAST_NAME = -3;

    private final int[] steps = new int[TAPE_MOST];
    private final int[] pile = new int[TAPE_MOST];
    private int size;

    void copyOf(Formula other) {
      System.arraycopy(other.steps, 0, steps, 0, TAPE_MOST);
      size = other.size;
    }

    boolean isText() {
      return size > 0;
    }

    void clear() {
      size = 0;
    }

    void add(int step) {
      if (size < TAPE_MOST) {
        steps[size] = step;
        size++;
      }
    }

    int worth(int a, int b, int c) {
      int top = -1;
      for (int i = 0; i < size && i < TAPE_MOST; i++) {
        int step = steps[i];
        if (step >= LAST_NAME) {
          if (top < TAPE_MOST - 1) {
            top++;
            pile[top] = step >= 0 ? step : step == -1 ? a : step == -2 ? b : c;
          }
        } else if (step == -'!') {
          if (top >= 0) {
            pile[top] = pile[top] == 0 ? 1 : 0;
          }
        } else if (top >= 1) {
          top--;
          pile[top] = joined(-step, pile[top], pile[top + 1]);
        }
      }
      return top >= 0 ? pile[0] : 0;
    }

    private static int joined(int sign, int left, int right) {
      switch (sign) {
        case '+':
          return left + right;
        case '-':
          return left - right;
        case '*':
          return left * right;
        case '/':
          return right == 0 ? 0 : left / right;
        case '%':
          return right == 0 ? 0 : left % right;
        case '<':
          return left < right ? 1 : 0;
        case '=':
          return left == right ? 1 : 0;
        case '>':
          return left > right ? 1 : 0;
        case '&':
          return left != 0 && right != 0 ? 1 : 0;
        default:
          return left != 0 || right != 0 ? 1 : 0;
      }
    }
  }

  /** Reads byte by byte and stops at the first that can't go on, so that the place is the FAULT. */
  private static final class Reader {
    final Formula draft = new Formula();
    private Tape tape;
    private String names = "";
    private int place;
    private boolean failed;

    /** -1: none; then the draft is the TEXT. */
    int faultOf(Tape from, String known) {
      tape = from;
      names = known;
      place = 0;
      failed = false;
      draft.clear();
      readOr(0);
      return failed || place < from.size ? place : -1;
    }

    private int next() {
      return failed || tape == null ? -1 : tape.byteAt(place);
    }

    private void readOr(int open) {
      readAnd(open);
      for (int i = 0; i < TAPE_MOST && next() == '|'; i++) {
        place++;
        readAnd(open);
        draft.add(-'|');
      }
    }

    private void readAnd(int open) {
      readCompared(open);
      for (int i = 0; i < TAPE_MOST && next() == '&'; i++) {
        place++;
        readCompared(open);
        draft.add(-'&');
      }
    }

    private void readCompared(int open) {
      readSum(open);
      int sign = next();
      if (sign == '<' || sign == '=' || sign == '>') {
        place++;
        readSum(open);
        draft.add(-sign);
      }
    }

    private void readSum(int open) {
      readProduct(open);
      int sign = next();
      for (int i = 0; i < TAPE_MOST && (sign == '+' || sign == '-'); i++) {
        place++;
        readProduct(open);
        draft.add(-sign);
        sign = next();
      }
    }

    private void readProduct(int open) {
      readUnit(open);
      int sign = next();
      for (int i = 0; i < TAPE_MOST && (sign == '*' || sign == '/' || sign == '%'); i++) {
        place++;
        readUnit(open);
        draft.add(-sign);
        sign = next();
      }
    }

    private void readUnit(int open) {
      int b = next();
      int name = b < 0 ? -1 : names.indexOf((char) b);
      if (within(b, '0', '9')) {
        readNumber();
      } else if (name >= 0) {
        place++;
        draft.add(-1 - name);
      } else if (b == '!' && open < OPEN_MOST) {
        place++;
        readUnit(open + 1);
        draft.add(-'!');
      } else if (b == '(' && open < OPEN_MOST) {
        place++;
        readOr(open + 1);
        readClosing();
      } else {
        failed = true;
      }
    }

    private void readClosing() {
      if (next() == ')') {
        place++;
      } else {
        failed = true;
      }
    }

    private void readNumber() {
      int number = 0;
      int b = next();
      for (int i = 0; i < DIGITS_MOST && within(b, '0', '9'); i++) {
        number = number * 10 + b - '0';
        place++;
        b = next();
      }
      draft.add(number);
    }
  }

  /** VOICES, and THE TRACE of the latest. */
  private static final class Voices {
    final int[] begun = new int[TRACE_MOST];
    int size;
    private int kind;
    private int m;
    private int n;

    int speak(Fisher one, int number, int act, int x) {
      size = 0;
      kind = one.kind;
      m = one.m;
      n = number;
      return say(kind, act, x, 0);
    }

    private int say(int from, int act, int x, int depth) {
      if (depth >= VOICE_DEPTH) {
        return 0;
      }
      int body = bodyOf(from, act);
      if (size < TRACE_MOST) {
        begun[size] = body;
        size++;
      }
      return worked(body, x, depth + 1);
    }

    private static int bodyOf(int from, int act) {
      int k = from;
      for (int i = 0; i < KINDS && within(k, 0, KINDS - 1); i++) {
        int at = k * ACTS + act;
        if (within(at, 0, KINDS * ACTS - 1) && BODIES[at] != 0) {
          return BODIES[at];
        }
        k = KIND_ABOVE[k];
      }
      return 0;
    }

    /** What stands left goes to a variable first: THE TRACE tells the order. */
    private int worked(int body, int x, int depth) {
      int left;
      switch (body) {
        case 10:
          return x + n;
        case 11:
          return say(kind, HEARS, x, depth) * 2;
        case 12:
          return x - m;
        case 13:
          left = say(kind, BIDS, x, depth);
          return left ^ say(kind, ROWS, x, depth);
        case 20:
          left = say(FISHER, BIDS, x, depth);
          return left - say(kind, ROWS, 1, depth);
        case 30:
          return say(FISHER, HEARS, x, depth) * 3;
        case 40:
          return -say(FISHER, ROWS, x, depth);
        case 50:
          return say(ANGLER, BIDS, x + 1, depth);
        case 60:
          left = say(DEAF, TELLS, x, depth);
          return left - say(kind, HEARS, 2, depth);
        case 70:
          return say(OLD, ROWS, x, depth) ^ n;
        case 71:
          left = say(kind, BIDS, x, depth);
          return left - say(OLD, TELLS, x, depth);
        default:
          return 0;
      }
    }
  }

  private static final class Sheet {
    final int[] cells = new int[SHEET_MOST];
    /** 0: missing. */
    int bits;
    int size;

    void lay(int width, int n) {
      bits = width;
      size = held(n, 0, SHEET_MOST);
      Arrays.fill(cells, 0);
    }

    boolean isMissing() {
      return bits == 0;
    }

    int lowest(int v) {
      return bits == 8 ? v & 0xFF : bits == 16 ? v & 0xFFFF : v;
    }

    /** By size - n, as from + n may wrap. */
    boolean holds(int from, int n) {
      return n >= 0 && n <= size && from >= 0 && from <= size - n;
    }
  }
}
