/** Promises 18 and 19: hours. */
public final class HoursTest {
  private HoursTest() {
  }

  public static void main(String[] args) {
    levels();
    strain();
    silt();
    spilt();
    levelEdges();
    siltEdges();
    strainEdges();
    book();
    heard();
    apart();
    dayTurns();
    lastHour();
    wrong();
    loose();
    looseHeld();
    looseEdges();
    looseOverMidnight();
    looseToTheLastHour();
    looseWrong();
    Due.end();
  }

  private static void levels() {
    DrownedBell x = Due.wetOne();
    Due.is("18: level", x.hours(1), 313);
    Due.is("18: two more", x.hours(2), 339);
    Due.is("18: hour", x.count(0), 3);
    x.set(4, 90);
    x.set(3, 60);
    Due.is("18: no more goes out than is there", x.hours(1), 18);
    Due.text(x, 1, "l/2+f/9+g/90");
    x.set(3, 100);
    Due.is("18: let out by a text", x.hours(1), 65);
    x.set(3, 599);
    x.set(4, 0);
    Due.text(x, 1, "g");
    Due.is("18: full", x.hours(1), 600);
    Due.is("18: at most", x.hours(240), 600);
  }

  private static void strain() {
    DrownedBell x = Due.steadyOne();
    x.set(7, 30);
    x.hours(2);
    Due.is("18: strain", x.now(7), 26);
    Due.is("18: stands", x.now(8), 1);
    x.hours(1);
    Due.is("18: more than the limit", x.now(7), 39);
    x.hours(5);
    Due.is("18: fallen bears no more", x.now(7), 39);
    x.set(7, 40);
    x.hours(1);
    Due.is("18: stood again", x.now(7), 52);
  }

  private static void silt() {
    DrownedBell x = new DrownedBell();
    Due.text(x, 0, "4");
    x.rain(0, 0, 9);
    x.rain(1, 1, 9);
    x.hours(1);
    Due.is("18: silt", x.now(6), 5);
    x.hours(1);
    Due.is("18: only by stream 0", x.now(6), 1);
    x.hours(1);
    Due.is("18: none left", x.now(6), 0);
    x.rain(0, 3, 9);
    x.set(0, 5);
    x.set(5, 86);
    x.hours(1);
    Due.is("18: most silt", x.now(6), 90);
    x.set(6, 1);
    x.hours(1);
    Due.is("18: muffled takes none", x.now(6), 90);
  }

  private static void spilt() {
    DrownedBell x = new DrownedBell();
    for (int stream = 0; stream < 3; stream++) {
      x.set(stream, 5);
      for (int hour = 0; hour < 24; hour++) {
        x.rain(stream, hour, 9);
      }
    }
    x.set(3, 600);
    x.set(4, 0);
    for (int i = 0; i < 30; i++) {
      x.hours(240);
    }
    Due.is("18: spilt", x.now(9), 972000);
    x.hours(207);
    Due.is("18: spilt, nearly all", x.now(9), 999945);
    x.hours(1);
    Due.is("18: spilt at most", x.now(9), 999999);
    x.hours(1);
    Due.is("18: spilt no more", x.now(9), 999999);
  }

  private static void levelEdges() {
    DrownedBell x = Due.wetOne();
    x.set(4, 0);
    int[] ahead = {581, 582, 583};
    int[] level = {599, 600, 600};
    int[] spilt = {0, 0, 1};
    for (int i = 0; i < ahead.length; i++) {
      x.set(3, ahead[i]);
      Due.is("18: full by " + ahead[i], x.hours(1), level[i]);
      Due.is("18: spilt by " + ahead[i], x.now(9), spilt[i]);
    }
    DrownedBell y = new DrownedBell();
    y.set(4, 90);
    int[] before = {91, 90, 89, 0};
    int[] behind = {1, 0, 0, 0};
    for (int i = 0; i < before.length; i++) {
      y.set(3, before[i]);
      Due.is("18: let out of " + before[i], y.hours(1), behind[i]);
    }
    Due.text(y, 1, "0-g");
    y.set(3, 50);
    Due.is("18: less than nothing is let out", y.hours(1), 50);
    Due.text(y, 1, "l*l");
    Due.is("18: more than the level is let out", y.hours(1), 0);
    y.rain(1, 6, 9);
    y.set(3, 600);
    Due.is("18: let out ahead of the flow", y.hours(1), 18);
    Due.is("18: nothing is spilt so", y.now(9), 0);
  }

  private static void siltEdges() {
    DrownedBell x = new DrownedBell();
    Due.text(x, 0, "s/9*3");
    for (int hour = 0; hour < 24; hour++) {
      x.rain(0, hour, 9);
    }
    x.set(5, 80);
    x.set(6, 1);
    x.hours(1);
    Due.is("18: silt 89", x.now(6), 89);
    x.set(5, 81);
    x.hours(1);
    Due.is("18: silt 90", x.now(6), 90);
    x.set(5, 82);
    x.hours(1);
    Due.is("18: silt 91 held", x.now(6), 90);
    x.set(6, 0);
    x.hours(1);
    Due.is("18: 90 and 9 less 20", x.now(6), 79);
    Due.text(x, 0, "10");
    x.set(5, 1);
    x.hours(1);
    Due.is("18: 1 and 9 less 10", x.now(6), 0);
    x.hours(1);
    Due.is("18: 0 and 9 less 10", x.now(6), 0);
    Due.text(x, 0, "9");
    x.hours(1);
    Due.is("18: 0 and 9 less 9", x.now(6), 0);
    Due.text(x, 0, "8");
    x.hours(1);
    Due.is("18: 0 and 9 less 8", x.now(6), 1);
  }

  private static void strainEdges() {
    DrownedBell x = Due.steadyOne();
    Due.text(x, 0, "9");
    x.fisher(0, 0);
    x.set(7, 14);
    x.hours(1);
    Due.is("18: 13 below 14", x.now(8), 1);
    Due.is("18: it rings yet", x.now(2), 9);
    x.hours(1);
    Due.is("18: 26", x.now(7), 26);
    Due.is("18: the hour in which it falls is heard", x.ofFisher(0, 4), 2);
    Due.is("18: the hour in which it falls has a note", x.now(10), 1);
    Due.is("18: fallen", x.now(8), 0);
    x.hours(1);
    Due.is("18: the fallen isn't heard", x.ofFisher(0, 4), 2);
    Due.is("18: the fallen is not latest", x.ofFisher(0, 5), 0);
    Due.is("18: the fallen has no note", x.now(10), 0);
    x.set(7, 26);
    Due.is("18: 26 at 26", x.now(8), 0);
    x.set(7, 27);
    Due.is("18: 26 at 27", x.now(8), 1);
    x.set(6, 1);
    x.hours(1);
    Due.is("18: the muffled one is strained, too", x.now(7), 39);
  }

  private static void book() {
    DrownedBell x = Due.steadyOne();
    Due.text(x, 0, "9");
    x.hours(1);
    Due.is("18: no hour ahead of the first", x.book(0, 1) + x.book(1, 1) + x.book(0, 0), 0);
    Due.is("18: past", x.now(10), 1);
    Due.text(x, 0, "3");
    x.hours(1);
    Due.is("18: wet behind note 1", x.book(1, 1), 1);
    Due.is("18: past again", x.now(10), 4);
    x.set(1, 1);
    x.hours(1);
    Due.is("18: 9 is dry", x.book(4, 0), 1);
    Due.is("18: not wet", x.book(4, 1), 0);
    x.rain(2, 3, 1);
    x.set(2, 1);
    x.hours(1);
    Due.is("18: 10 is wet", x.book(4, 1), 1);
  }

  private static void heard() {
    DrownedBell x = new DrownedBell();
    Due.text(x, 0, "1");
    x.fisher(0, 0);
    x.fisher(0, 10);
    x.fisher(60, 99);
    x.hours(7);
    Due.is("18: heard", x.ofFisher(0, 4), 7);
    Due.is("18: latest", x.ofFisher(0, 5), 1);
    Due.is("18: not heard", x.ofFisher(1, 4), 0);
    Due.is("18: not latest", x.ofFisher(1, 5), 0);
    for (int i = 0; i < 41; i++) {
      x.hours(240);
    }
    x.hours(151);
    Due.is("18: hour", x.count(0), 9998);
    Due.is("18: heard by the diver", x.ofFisher(2, 4), 9998);
    Due.is("18: heard at most", x.thenFisher(1, 2, 4), 9999);
    Due.is("18: heard no more", x.thenFisher(240, 2, 4), 9999);
  }

  /** LEVEL, GATE, SILT and SPILT are high: none of them is taken for another. */
  private static void apart() {
    DrownedBell x = Due.wetOne();
    Due.text(x, 0, "9");
    Due.text(x, 1, "0");
    x.set(3, 600);
    x.set(4, 90);
    x.set(5, 80);
    x.fisher(60, 0);
    x.fisher(0, 99);
    x.hours(5);
    Due.is("18: spilt", x.now(9), 90);
    Due.is("18: silt, whatever LETS gives", x.now(6), 35);
    Due.is("18: strain by the current", x.now(7), 40);
    Due.is("18: heard", x.ofFisher(0, 4), 5);
    Due.is("18: not heard", x.ofFisher(1, 4), 0);
    DrownedBell y = Due.wetOne();
    y.hours(1);
    Due.is("18: the note of 9 strikes by the current", y.now(10), 1);
  }

  private static void dayTurns() {
    DrownedBell x = new DrownedBell();
    x.rain(1, 0, 3);
    x.rain(1, 23, 4);
    x.hours(23);
    Due.is("18: the last hour of the day", x.now(0), 8);
    x.hours(1);
    Due.is("18: the first again", x.now(0), 6);
    x.hours(24);
    Due.is("18: and again", x.now(0), 6);
  }

  private static void lastHour() {
    DrownedBell x = new DrownedBell();
    for (int i = 0; i < 41; i++) {
      x.hours(240);
    }
    Due.is("18: 160 are too many", x.hours(160), Due.STATE);
    Due.is("19: 160 are too many", x.loose(160), Due.STATE);
    Due.is("19: no draws", x.count(7), 1);
    Due.is("18: beyond ahead of state", x.hours(241), Due.BEYOND);
    Due.is("18: hour as it was", x.count(0), 9840);
    Due.is("18: up to the last", x.hours(159), 0);
    Due.is("18: the last", x.count(0), 9999);
    Due.is("18: none behind it", x.hours(1), Due.STATE);
    Due.is("19: none behind it", x.loose(1), Due.STATE);
    Due.is("19: beyond ahead of state", x.loose(0), Due.BEYOND);
    Due.is("18: told", x.told(3), 4);
  }

  private static void wrong() {
    DrownedBell x = new DrownedBell();
    int[] wrong = {0, -1, 241, Integer.MIN_VALUE, Integer.MAX_VALUE};
    for (int n : wrong) {
      Due.is("18: beyond " + n, x.hours(n), Due.BEYOND);
    }
    Due.is("18: told", x.told(1), wrong.length);
    Due.is("18: no hour went by", x.count(0), 0);
  }

  private static void loose() {
    DrownedBell x = new DrownedBell();
    Due.is("19: one", x.loose(1), 299);
    Due.is("19: z", x.count(7), 662824084);
    Due.is("19: three more", x.loose(3), 288);
    Due.is("19: z again", x.count(7), 836760821);
    Due.is("19: hour", x.count(0), 4);
    int[][] stays = {{1, 1, 0, 0}, {1, 0, 1, 0}, {0, 0, 0, 0}};
    for (int stream = 0; stream < 3; stream++) {
      for (int hour = 0; hour < 4; hour++) {
        Due.is("19: stays " + stream + " " + hour, x.rain(stream, hour, 0), stays[stream][hour]);
      }
    }
  }

  private static void looseHeld() {
    DrownedBell x = new DrownedBell();
    for (int stream = 0; stream < 3; stream++) {
      x.rain(stream, 0, 9);
    }
    x.loose(1);
    Due.is("19: 9 at most", x.rain(0, 0, 0), 9);
    Due.is("19: 9 at most again", x.rain(1, 0, 0), 9);
    Due.is("19: less", x.rain(2, 0, 0), 8);
    DrownedBell y = new DrownedBell();
    y.loose(240);
    DrownedBell z = new DrownedBell();
    for (int i = 0; i < 240; i++) {
      z.loose(1);
    }
    for (int what = 0; what < 13; what++) {
      Due.is("19: 240 as 240 times one " + what, y.now(what), z.now(what));
    }
  }

  /** Each draw by 3 is told by what it adds; of 0 and of 9 nothing goes beyond. */
  private static void looseEdges() {
    int[] ahead = {0, 1, 5, 8, 9};
    for (int v : ahead) {
      DrownedBell x = new DrownedBell();
      int z = 1;
      for (int hour = 0; hour < 24; hour++) {
        for (int stream = 0; stream < 3; stream++) {
          x.rain(stream, hour, v);
        }
      }
      x.loose(24);
      for (int hour = 0; hour < 24; hour++) {
        for (int stream = 0; stream < 3; stream++) {
          z = z * 1103515245 + 12345;
          int want = v + (int) ((z & 0xFFFFFFFFL) / 256 % 3) - 1;
          Due.is("19: " + v + " in hour " + hour + " of stream " + stream, x.rain(stream, hour, 0),
              want < 0 ? 0 : want > 9 ? 9 : want);
        }
      }
      Due.is("19: z behind 72 draws", x.count(7), z);
    }
  }

  private static void looseOverMidnight() {
    DrownedBell x = new DrownedBell();
    x.hours(23);
    x.loose(2);
    DrownedBell y = new DrownedBell();
    y.hours(23);
    y.loose(1);
    y.loose(1);
    for (int stream = 0; stream < 3; stream++) {
      int last = x.rain(stream, 23, 0);
      Due.is("19: the last hour of the day, stream " + stream, y.rain(stream, 23, 0), last);
      int first = x.rain(stream, 0, 0);
      Due.is("19: the first hour of the next, stream " + stream, y.rain(stream, 0, 0), first);
      Due.is("19: no other hour, stream " + stream, x.rain(stream, 1, 0), 0);
      Due.is("19: nor the one ahead, stream " + stream, x.rain(stream, 22, 0), 0);
    }
    Due.is("19: six draws", x.count(7), y.count(7));
  }

  private static void looseToTheLastHour() {
    DrownedBell x = new DrownedBell();
    for (int i = 0; i < 41; i++) {
      x.hours(240);
    }
    Due.yes("19: up to the last", x.loose(159) >= 0);
    Due.is("19: the last", x.count(0), 9999);
  }

  private static void looseWrong() {
    DrownedBell x = new DrownedBell();
    int[] wrong = {0, -1, 241};
    for (int n : wrong) {
      Due.is("19: beyond " + n, x.loose(n), Due.BEYOND);
    }
    Due.is("19: z as it was", x.count(7), 1);
  }
}
