/** Promises 20 to 26: ahead, the book. */
public final class AheadTest {
  private AheadTest() {
  }

  public static void main(String[] args) {
    then();
    thenWrong();
    thenFisher();
    beyondTheLastHour();
    allBeyondTheLastHour();
    falls();
    book();
    odds();
    gateFor();
    gateForWrong();
    shown();
    nothingChanges();
    Due.end();
  }

  private static DrownedBell rich() {
    DrownedBell x = new DrownedBell();
    x.rain(0, 0, 9);
    x.rain(1, 0, 5);
    x.rain(2, 1, 7);
    x.rain(0, 3, 2);
    x.rain(1, 5, 9);
    x.fisher(3, 5);
    x.fisher(33, 0);
    x.fisher(45, 60);
    return x;
  }

  private static void then() {
    for (int n = 0; n <= 240; n += n < 30 ? 1 : 35) {
      DrownedBell x = rich();
      DrownedBell y = rich();
      if (n > 0) {
        y.hours(n);
      }
      for (int what = 0; what < 13; what++) {
        Due.is("20: behind " + n + " what " + what, x.then(n, what), y.now(what));
      }
    }
    DrownedBell x = rich();
    Due.is("20: level", x.then(1, 4), 323);
    Due.is("20: past", x.then(1, 10), 2);
    Due.is("20: strain", x.then(24, 7), 45);
    Due.is("20: now", x.then(0, 0), 28);
  }

  private static void thenWrong() {
    DrownedBell x = rich();
    int[][] wrong = {{-1, 0}, {241, 0}, {0, -1}, {0, 13}};
    for (int[] w : wrong) {
      Due.is("20: beyond " + w[0] + " " + w[1], x.then(w[0], w[1]), Due.BEYOND);
    }
    int[][] wrongFisher = {{-1, 0, 0}, {241, 0, 0}, {0, -1, 0}, {0, 3, 0}, {0, 0, -1}, {0, 0, 8}};
    for (int[] w : wrongFisher) {
      Due.is("21: beyond " + w[0] + " " + w[1] + " " + w[2], x.thenFisher(w[0], w[1], w[2]), Due.BEYOND);
    }
    Due.is("20: told", x.told(1), wrong.length + wrongFisher.length);
  }

  private static void thenFisher() {
    for (int n = 0; n <= 240; n += n < 30 ? 1 : 35) {
      DrownedBell x = rich();
      DrownedBell y = rich();
      if (n > 0) {
        y.hours(n);
      }
      for (int fisher = 0; fisher < 3; fisher++) {
        for (int what = 0; what < 8; what++) {
          Due.is("21: behind " + n + " of " + fisher + " what " + what,
              x.thenFisher(n, fisher, what), y.ofFisher(fisher, what));
        }
      }
    }
    DrownedBell x = Due.steadyOne();
    Due.text(x, 0, "9");
    x.set(7, 99999);
    x.fisher(0, 0);
    Due.is("21: heard", x.thenFisher(240, 0, 4), 240);
    Due.is("21: bids", x.thenFisher(2, 0, 7), 10);
    Due.is("21: bids nothing yet", x.thenFisher(1, 0, 7), 0);
  }

  private static void beyondTheLastHour() {
    DrownedBell x = Due.steadyOne();
    Due.text(x, 0, "9");
    x.rain(2, 15, 4);
    for (int i = 0; i < 41; i++) {
      x.hours(240);
    }
    x.hours(159);
    Due.is("20: hour 9999 is 15 o'clock", x.now(0), 26);
    Due.is("20: beyond hour 9999", x.then(24, 0), 26);
    Due.is("20: one more", x.then(1, 0), 18);
    x.set(7, 99999);
    int strain = x.now(7);
    Due.is("20: 240 more", x.then(240, 7), strain + 240 * 13 + 10 * 8);
    Due.is("25: level kept", x.gateFor(300, 300, 48), 0);
  }

  /** In HOUR 9999 each of the AHEADS goes on. */
  private static void allBeyondTheLastHour() {
    DrownedBell x = new DrownedBell();
    Due.text(x, 0, "9");
    x.fisher(60, 0);
    x.set(3, 600);
    x.set(4, 0);
    for (int i = 0; i < 41; i++) {
      x.hours(240);
    }
    x.hours(159);
    Due.is("18: none goes by", x.hours(1), Due.STATE);
    x.set(4, 2);
    x.rain(1, 16, 9);
    Due.is("20: level", x.then(1, 4), 598);
    Due.is("20: level behind 2", x.then(2, 4), 600);
    Due.is("20: level behind 240", x.then(240, 4), 600 - 2 * 238 + 18 * 9);
    Due.is("21: heard at most", x.thenFisher(2, 0, 4), 9999);
    Due.is("21: latest", x.thenFisher(240, 0, 5), 1);
    Due.is("26: shown", x.shown(4, 240), 71);
    x.set(7, 1);
    Due.is("22: falls", x.falls(240), 2);
    x.set(7, 10);
    Due.is("22: falls one day later", x.falls(240), 26);
    Due.is("25: gate", x.gateFor(590, 600, 2), 0);
    Due.is("25: gate behind 1", x.gateFor(0, 590, 1), 10);
    Due.is("25: gate behind 2", x.gateFor(0, 590, 2), 14);
    x.set(7, 9);
    x.sheet(0, 8, 3);
    x.put(0, 0, 1);
    x.put(0, 1, 1);
    x.put(0, 2, 1);
    Due.is("34: judged", x.judge(0), 2);
    x.tell(598);
    x.tell(614);
    Due.is("38: the second isn't so", x.check(), 2);
    x.tell(598);
    x.tell(600);
    x.tell(598);
    Due.is("38: all are so", x.check(), 0);
    Due.is("39: hour as it was", x.count(0), 9999);
  }

  private static void falls() {
    DrownedBell x = Due.steadyOne();
    x.set(7, 26);
    Due.is("22: none within 1", x.falls(1), Due.NONE);
    Due.is("22: behind 2", x.falls(2), 2);
    Due.is("22: behind 2 of many", x.falls(240), 2);
    x.set(7, 27);
    Due.is("22: behind 3", x.falls(240), 3);
    x.set(7, 13 * 240);
    Due.is("22: the last", x.falls(240), 240);
    x.set(7, 13 * 240 + 1);
    Due.is("22: none", x.falls(240), Due.NONE);
    Due.is("22: none at 0", x.falls(0), Due.NONE);
    x.hours(1);
    x.set(7, 13);
    Due.is("22: now", x.falls(0), 0);
    Due.is("22: now, though more is asked", x.falls(240), 0);
    Due.is("22: beyond below", x.falls(-1), Due.BEYOND);
    Due.is("22: beyond above", x.falls(241), Due.BEYOND);
    Due.is("22: told none", x.told(2), 3);
    Due.is("22: told beyond", x.told(1), 2);
  }

  private static void book() {
    DrownedBell x = Due.steadyOne();
    Due.text(x, 0, "9");
    x.hours(4);
    Due.is("23: wet", x.book(1, 1), 3);
    Due.is("23: dry", x.book(1, 0), 0);
    x.set(6, 1);
    x.set(1, 1);
    x.hours(6);
    Due.is("23: dry behind 1", x.book(1, 0), 1);
    Due.is("23: dry behind 0", x.book(0, 0), 5);
    Due.is("23: last note", x.book(9, 1), 0);
    int[][] wrong = {{-1, 0}, {10, 0}, {0, -1}, {0, 2}};
    for (int[] w : wrong) {
      Due.is("23: beyond " + w[0] + " " + w[1], x.book(w[0], w[1]), Due.BEYOND);
    }
  }

  private static void odds() {
    DrownedBell x = Due.steadyOne();
    Due.text(x, 0, "9");
    Due.is("24: nothing above", x.odds(1, 0), 0);
    Due.is("24: nothing below", x.odds(1, 1), 1);
    x.hours(5);
    Due.is("24: only wet, above", x.odds(1, 0), 1);
    Due.is("24: only wet, below", x.odds(1, 1), 1);
    x.set(1, 1);
    x.hours(2);
    Due.is("24: 4 of 6, above", x.odds(1, 0), 2);
    Due.is("24: 4 of 6, below", x.odds(1, 1), 3);
    x.hours(1);
    Due.is("24: 4 of 7, above", x.odds(1, 0), 4);
    Due.is("24: 4 of 7, below", x.odds(1, 1), 7);
    x.hours(1);
    Due.is("24: 4 of 8, above", x.odds(1, 0), 1);
    Due.is("24: 4 of 8, below", x.odds(1, 1), 2);
    oddsOfMany();
    DrownedBell still = Due.steadyOne();
    still.set(6, 1);
    still.hours(4);
    still.set(1, 1);
    still.hours(6);
    Due.is("24: 3 of 9 of note 0, above", still.odds(0, 0), 1);
    Due.is("24: 3 of 9 of note 0, below", still.odds(0, 1), 3);
    DrownedBell y = new DrownedBell();
    y.hours(9);
    Due.is("24: only dry, above", y.odds(0, 0), 0);
    Due.is("24: only dry, below", y.odds(0, 1), 1);
    Due.text(y, 0, "8");
    y.hours(2);
    Due.is("24: note 9 at first", y.odds(9, 0), 0);
    y.rain(1, 11, 9);
    y.hours(1);
    Due.is("24: 1 of 2 of note 9, above", y.odds(9, 0), 1);
    Due.is("24: 1 of 2 of note 9, below", y.odds(9, 1), 2);
    int[][] wrong = {{-1, 0}, {10, 0}, {0, -1}, {0, 2}};
    for (int[] w : wrong) {
      Due.is("24: beyond " + w[0] + " " + w[1], y.odds(w[0], w[1]), Due.BEYOND);
    }
    Due.is("24: told", y.told(1), 4);
  }

  private static void oddsOfMany() {
    DrownedBell x = Due.steadyOne();
    Due.text(x, 0, "9");
    x.set(7, 99999);
    x.fisher(0, 0);
    x.hours(11);
    x.set(1, 1);
    x.hours(15);
    Due.is("23: wet", x.book(1, 1), 10);
    Due.is("23: dry", x.book(1, 0), 15);
    Due.is("24: 10 of 25, above", x.odds(1, 0), 2);
    Due.is("24: 10 of 25, below", x.odds(1, 1), 5);
    Due.is("9: bids at 2 by 5", x.ofFisher(0, 7), 4);
    x.hours(20);
    Due.is("24: 10 of 45, above", x.odds(1, 0), 2);
    Due.is("24: 10 of 45, below", x.odds(1, 1), 9);
    Due.is("9: bids at 2 by 9", x.ofFisher(0, 7), 2);
    x.hours(1);
    Due.is("24: 10 of 46, above", x.odds(1, 0), 5);
    Due.is("24: 10 of 46, below", x.odds(1, 1), 23);
    x.set(1, 2);
    x.hours(24);
    Due.is("24: 34 of 70, above", x.odds(1, 0), 17);
    Due.is("24: 34 of 70, below", x.odds(1, 1), 35);
  }

  private static void gateFor() {
    DrownedBell x = Due.wetOne();
    Due.is("25: any", x.gateFor(0, 600, 48), 0);
    Due.is("25: the same level", x.gateFor(300, 300, 48), 18);
    Due.is("25: up to 310", x.gateFor(290, 310, 10), 17);
    Due.is("25: up to 309", x.gateFor(290, 309, 10), 18);
    Due.is("25: the widest gate", x.gateFor(228, 228, 1), 90);
    Due.is("25: lower than that", x.gateFor(0, 227, 1), Due.NONE);
    Due.is("25: each hour", x.gateFor(228, 228, 2), Due.NONE);
    Due.is("25: gate as it was", x.now(5), 5);
    x.set(3, 600);
    Due.is("25: full", x.gateFor(600, 600, 48), 0);
    Due.text(x, 1, "g/10");
    Due.is("25: by a text", x.gateFor(590, 600, 1), 0);
    x.set(3, 300);
    Due.is("25: by a text, less", x.gateFor(0, 311, 1), 70);
  }

  private static void gateForWrong() {
    DrownedBell x = Due.wetOne();
    int[][] wrong = {{-1, 0, 1}, {0, -1, 1}, {601, 600, 1}, {0, 601, 1}, {9, 8, 1}, {0, 600, 0}, {0, 600, 49},
        {0, 600, -1}, {601, 601, 1}, {-1, -1, 1}};
    for (int[] w : wrong) {
      Due.is("25: beyond " + w[0] + " " + w[1] + " " + w[2], x.gateFor(w[0], w[1], w[2]), Due.BEYOND);
    }
    Due.is("25: told", x.told(1), wrong.length);
  }

  private static void shown() {
    DrownedBell x = new DrownedBell();
    x.set(4, 90);
    Due.is("26: now", x.shown(3, 0), 0);
    Due.is("26: none at 1", x.shown(1, 1), Due.NONE);
    Due.is("26: behind 2", x.shown(1, 2), 2);
    Due.is("26: behind 2 of many", x.shown(1, 240), 2);
    Due.is("26: as high as the level", x.shown(2, 0), Due.NONE);
    Due.is("26: behind 1", x.shown(2, 240), 1);
    Due.is("26: the last thing", x.shown(5, 9), 0);
    x.thing(0, 0);
    Due.is("26: never", x.shown(0, 240), Due.NONE);
    int[][] wrong = {{-1, 0}, {6, 0}, {0, -1}, {0, 241}};
    for (int[] w : wrong) {
      Due.is("26: beyond " + w[0] + " " + w[1], x.shown(w[0], w[1]), Due.BEYOND);
    }
    x.set(4, 1);
    x.thing(1, 61);
    Due.is("26: behind 240", x.shown(1, 240), 240);
    Due.is("26: not behind 239", x.shown(1, 239), Due.NONE);
  }

  private static void nothingChanges() {
    DrownedBell x = rich();
    DrownedBell y = rich();
    x.then(200, 4);
    x.thenFisher(200, 1, 4);
    x.falls(200);
    x.gateFor(0, 300, 48);
    x.shown(0, 200);
    for (int what = 0; what < 13; what++) {
      Due.is("20: unchanged " + what, x.now(what), y.now(what));
    }
    for (int what = 0; what < 8; what++) {
      Due.is("21: unchanged " + what, x.ofFisher(1, what), y.ofFisher(1, what));
      Due.is("20: uncounted " + what, x.count(what), y.count(what));
    }
    for (int note = 0; note <= 9; note++) {
      Due.is("20: unwritten " + note, x.book(note, 0), 0);
    }
  }
}
