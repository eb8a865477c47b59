/** Promises 1 to 7: streams, lake, tower. */
public final class LakeTest {
  private LakeTest() {
  }

  public static void main(String[] args) {
    newObject();
    rain();
    set();
    setApart();
    setWrong();
    now();
    nowByLaw();
    currentEdges();
    flowEdges();
    led();
    thing();
    shows();
    Due.end();
  }

  private static void newObject() {
    DrownedBell x = new DrownedBell();
    int[] readings = {0, 0, 0, 0, 300, 5, 0, 0, 1, 0, 0, 0, 500};
    for (int what = 0; what < readings.length; what++) {
      Due.is("1: now " + what, x.now(what), readings[what]);
    }
    int[] counts = {0, 0, 0, 0, 0, 0, 0, 1};
    for (int what = 0; what < counts.length; what++) {
      Due.is("1: count " + what, x.count(what), counts[what]);
    }
    for (int k = 1; k <= 5; k++) {
      Due.is("1: told " + k, x.told(k), 0);
    }
    for (int note = 0; note <= 9; note++) {
      Due.is("1: dry " + note, x.book(note, 0), 0);
      Due.is("1: wet " + note, x.book(note, 1), 0);
    }
    for (int stream = 0; stream < 3; stream++) {
      Due.is("1: wide " + stream, x.set(stream, 1), 2);
      for (int hour = 0; hour < 24; hour++) {
        Due.is("1: rain " + stream + " " + hour, x.rain(stream, hour, 0), 0);
      }
    }
    for (int i = 0; i < 6; i++) {
      Due.is("1: thing " + i, x.thing(i, 0), 100 * (i + 1));
    }
    for (int i = 0; i < 4; i++) {
      Due.is("1: sheet " + i, x.judge(i), Due.NONE);
    }
    Due.is("1: no image", x.restore(), Due.NONE);
    Due.is("1: no trace", x.trace(0), Due.NONE);
    Due.is("1: no fisher", x.ofFisher(0, 0), Due.BEYOND);
    Due.is("1: rings", x.law(0, 20, 30, 0), 13);
    Due.is("1: lets", x.law(1, 50, 9, 7), 7);
    DrownedBell other = new DrownedBell();
    Due.is("1: objects are apart", other.set(0, 2), 2);
  }

  private static void rain() {
    DrownedBell x = new DrownedBell();
    Due.is("2: first", x.rain(0, 0, 9), 0);
    Due.is("2: again", x.rain(0, 0, 4), 9);
    Due.is("2: last of the day", x.rain(2, 23, 7), 0);
    Due.is("2: was", x.rain(2, 23, 0), 7);
    Due.is("2: another hour", x.rain(0, 1, 1), 0);
    Due.is("2: another stream", x.rain(1, 0, 1), 0);
    int[][] wrong = {{-1, 0, 0}, {3, 0, 0}, {0, -1, 0}, {0, 24, 0}, {0, 0, -1}, {0, 0, 10},
        {Integer.MIN_VALUE, 0, 0}, {0, Integer.MAX_VALUE, 0}, {89478486, 24, 1}};
    for (int[] w : wrong) {
      Due.is("2: beyond " + w[0] + " " + w[1] + " " + w[2], x.rain(w[0], w[1], w[2]), Due.BEYOND);
    }
    Due.is("2: unchanged", x.rain(0, 0, 4), 4);
    Due.is("2: told", x.told(1), wrong.length);
  }

  private static void set() {
    DrownedBell x = new DrownedBell();
    int[] first = {2, 2, 2, 300, 5, 0, 0, 500};
    int[] low = {1, 1, 1, 0, 0, 0, 0, 1};
    int[] high = {5, 5, 5, 600, 90, 90, 1, 99999};
    for (int what = 0; what < 8; what++) {
      Due.is("3: was first " + what, x.set(what, low[what]), first[what]);
      Due.is("3: was low " + what, x.set(what, high[what]), low[what]);
      Due.is("3: below " + what, x.set(what, low[what] - 1), Due.BEYOND);
      Due.is("3: above " + what, x.set(what, high[what] + 1), Due.BEYOND);
      Due.is("3: was high " + what, x.set(what, first[what]), high[what]);
    }
  }

  /** One becomes another, the others stay. */
  private static void setApart() {
    DrownedBell x = new DrownedBell();
    int[] high = {5, 4, 3, 600, 89, 90, 1, 99999};
    for (int what = 0; what < 8; what++) {
      x.set(what, high[what]);
    }
    for (int what = 0; what < 8; what++) {
      Due.is("3: was " + what, x.set(what, 1), high[what]);
      for (int other = 0; other < 8; other++) {
        int stays = other == what ? 1 : high[other];
        Due.is("3: " + other + " when " + what + " becomes 1", x.set(other, high[other]), stays);
      }
    }
  }

  private static void setWrong() {
    DrownedBell x = new DrownedBell();
    int[] whats = {-1, 8, Integer.MIN_VALUE, Integer.MAX_VALUE};
    for (int what : whats) {
      Due.is("3: what " + what, x.set(what, 1), Due.BEYOND);
    }
    Due.is("3: told", x.told(1), 4);
    Due.is("3: level as it was", x.now(4), 300);
  }

  private static void now() {
    DrownedBell x = new DrownedBell();
    x.rain(0, 0, 9);
    x.rain(1, 0, 5);
    x.rain(2, 1, 7);
    Due.is("4: flow", x.now(0), 28);
    x.set(1, 5);
    Due.is("4: flow by wide", x.now(0), 43);
    x.set(1, 2);
    Due.is("4: current", x.now(1), 23);
    x.set(3, 359);
    Due.is("4: current under 360", x.now(1), 23);
    x.set(3, 360);
    Due.is("4: current at 360", x.now(1), 22);
    Due.is("4: strikes", x.now(2), 18);
    Due.is("4: note of 18", x.now(3), 1);
    x.set(3, 420);
    Due.is("4: note of 17", x.now(3), 9);
    x.set(5, 25);
    Due.is("4: strikes by silt", x.now(2), 15);
    Due.is("4: note by silt", x.now(3), 9);
    Due.is("4: silt", x.now(6), 25);
    x.set(5, 19);
    Due.is("4: silt of 19", x.now(3), 9);
    x.set(5, 20);
    Due.is("4: silt of 20", x.now(3), 9);
    Due.text(x, 0, "7");
    int[] notes = {8, 8, 9, 9, 1, 1, 7, 8};
    int[] mud = {0, 9, 10, 19, 20, 29, 89, 90};
    for (int i = 0; i < mud.length; i++) {
      x.set(5, mud[i]);
      Due.is("4: note by silt " + mud[i], x.now(3), notes[i]);
    }
    x.set(5, 25);
    x.set(4, 77);
    Due.is("4: gate", x.now(5), 77);
    x.set(6, 1);
    Due.is("4: muffled", x.now(11), 1);
    Due.is("4: no strikes", x.now(2), 0);
    Due.is("4: no note", x.now(3), 0);
    Due.is("4: current still", x.now(1), 21);
    x.set(7, 1);
    Due.is("4: limit", x.now(12), 1);
    Due.is("4: stands yet", x.now(8), 1);
    x.hours(1);
    Due.is("4: strain", x.now(7), 21);
    Due.is("4: fallen", x.now(8), 0);
    x.set(6, 0);
    Due.is("4: the fallen is still", x.now(2), 0);
    x.set(7, 21);
    Due.is("4: strain at the limit", x.now(8), 0);
    x.set(7, 22);
    Due.is("4: strain below the limit", x.now(8), 1);
    Due.is("4: flow of the next hour", x.now(0), 14);
    Due.is("4: beyond below", x.now(-1), Due.BEYOND);
    Due.is("4: beyond above", x.now(13), Due.BEYOND);
    Due.is("4: told", x.told(1), 2);
  }

  private static void nowByLaw() {
    DrownedBell x = Due.wetOne();
    Due.text(x, 0, "l/100+c+s*2");
    Due.is("4: strikes by a text", x.now(2), 16);
    x.set(5, 3);
    Due.is("4: strikes held", x.now(2), 20);
    Due.is("4: note of 20", x.now(3), 3);
    Due.text(x, 0, "c-99");
    Due.is("4: strikes held at 0", x.now(2), 0);
    Due.is("4: note without strikes", x.now(3), 0);
    x.set(3, 599);
    x.set(4, 0);
    x.hours(1);
    Due.is("4: spilt", x.now(9), 17);
    Due.is("4: level full", x.now(4), 600);
    Due.text(x, 0, "9");
    x.hours(1);
    Due.is("4: past", x.now(10), 1);
    Due.is("4: spilt more", x.now(9), 35);
  }

  private static void currentEdges() {
    DrownedBell x = new DrownedBell();
    x.set(1, 1);
    int[] levels = {0, 59, 60, 119, 120, 540, 599, 600};
    int[] takes = {0, 0, 1, 1, 2, 9, 9, 10};
    for (int i = 0; i < levels.length; i++) {
      x.set(3, levels[i]);
      x.rain(1, 0, 0);
      Due.is("4: no flow, level " + levels[i], x.now(1), 0);
      x.rain(1, 0, 9);
      Due.is("4: flow 9, level " + levels[i], x.now(1), Math.max(0, 9 - takes[i]));
    }
    x.rain(2, 0, 1);
    Due.is("4: flow 11 at level 600", x.now(1), 1);
    x.rain(1, 0, 8);
    Due.is("4: flow 10 at level 600", x.now(1), 0);
    x.rain(1, 0, 7);
    Due.is("4: flow 9 at level 600", x.now(1), 0);
  }

  private static void flowEdges() {
    DrownedBell x = new DrownedBell();
    for (int stream = 0; stream < 3; stream++) {
      x.set(stream, 5);
      x.rain(stream, 0, 9);
    }
    Due.is("4: the most flow", x.now(0), 135);
    x.set(3, 0);
    Due.is("4: the most current", x.now(1), 135);
    Due.is("4: the most strikes", x.now(2), 20);
    Due.text(x, 0, "c-115");
    Due.is("4: 20 strikes not held", x.now(2), 20);
    Due.text(x, 0, "c-114");
    Due.is("4: 21 strikes held", x.now(2), 20);
    Due.text(x, 0, "c-134");
    Due.is("4: one strike", x.now(2), 1);
    Due.is("4: note of one", x.now(3), 2);
    Due.text(x, 0, "c-135");
    Due.is("4: no strike", x.now(2), 0);
    Due.is("4: no note", x.now(3), 0);
    Due.text(x, 0, "c-136");
    Due.is("4: less than none", x.now(2), 0);
    x.set(5, 90);
    Due.is("4: no note by silt alone", x.now(3), 0);
    DrownedBell y = new DrownedBell();
    Due.is("4: without a text, no strike", y.now(2), 0);
    y.set(3, 0);
    y.rain(1, 0, 2);
    Due.is("4: without a text, current 4", y.now(2), 0);
    y.set(1, 5);
    y.rain(1, 0, 1);
    Due.is("4: without a text, current 5", y.now(2), 1);
    y.set(5, 9);
    Due.is("4: without a text, silt 9", y.now(2), 1);
    y.set(5, 10);
    Due.is("4: without a text, silt 10", y.now(2), 0);
  }

  private static void led() {
    DrownedBell x = new DrownedBell();
    Due.is("5: none", x.led(0), Due.NONE);
    x.rain(2, 0, 1);
    x.set(2, 1);
    Due.is("5: the only one", x.led(0), 2);
    x.set(2, 2);
    x.rain(1, 0, 1);
    Due.is("5: the least of two", x.led(0), 1);
    x.set(2, 3);
    Due.is("5: by wide", x.led(0), 2);
    x.rain(0, 0, 3);
    x.rain(2, 0, 2);
    Due.is("5: 6 by 6", x.led(0), 0);
    Due.is("5: another hour", x.led(1), Due.NONE);
    x.rain(1, 23, 9);
    Due.is("5: last of the day", x.led(23), 1);
    Due.is("5: beyond above", x.led(24), Due.BEYOND);
    Due.is("5: beyond below", x.led(-1), Due.BEYOND);
    Due.is("5: told beyond", x.told(1), 2);
    Due.is("5: told none", x.told(2), 2);
  }

  private static void thing() {
    DrownedBell x = new DrownedBell();
    Due.is("6: was", x.thing(0, 600), 100);
    Due.is("6: was high", x.thing(0, 0), 600);
    Due.is("6: was low", x.thing(0, 5), 0);
    Due.is("6: last", x.thing(5, 1), 600);
    int[][] wrong = {{-1, 0}, {6, 0}, {0, -1}, {0, 601}};
    for (int[] w : wrong) {
      Due.is("6: beyond " + w[0] + " " + w[1], x.thing(w[0], w[1]), Due.BEYOND);
    }
    Due.is("6: unchanged", x.thing(0, 5), 5);
  }

  private static void shows() {
    DrownedBell x = new DrownedBell();
    Due.is("7: first", x.shows(), 56);
    x.set(3, 299);
    Due.is("7: just above", x.shows(), 60);
    x.set(3, 600);
    Due.is("7: none", x.shows(), 0);
    x.set(3, 0);
    Due.is("7: all", x.shows(), 63);
    x.thing(3, 0);
    Due.is("7: as high as the level", x.shows(), 55);
  }
}
