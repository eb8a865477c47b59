/** Promises 35 to 40: images, what is told. */
public final class ImagesTest {
  private ImagesTest() {
  }

  public static void main(String[] args) {
    restoreNone();
    imageKeeps();
    imageLeaves();
    imageAgain();
    imageOfTheFull();
    imageOverwritten();
    imageOfTheNew();
    restoreFromTheLastHour();
    tell();
    check();
    checkEdges();
    count();
    told();
    Due.end();
  }

  private static void restoreNone() {
    DrownedBell x = new DrownedBell();
    x.set(3, 9);
    Due.is("36: none", x.restore(), Due.NONE);
    Due.is("36: unchanged", x.now(4), 9);
    Due.is("36: told", x.told(2), 1);
  }

  private static DrownedBell full() {
    DrownedBell x = new DrownedBell();
    x.rain(0, 3, 9);
    x.rain(1, 2, 8);
    x.rain(0, 5, 2);
    x.rain(2, 11, 5);
    x.set(0, 5);
    x.set(2, 4);
    x.set(4, 3);
    x.set(5, 31);
    x.set(7, 321);
    x.thing(2, 333);
    x.fisher(33, 4);
    x.fisher(61, 5);
    x.change(1, 3, 77);
    Due.text(x, 0, "c+3");
    Due.text(x, 1, "g*2");
    x.set(3, 599);
    x.hours(5);
    Due.feed(x, "c-1");
    x.tell(x.then(1, 4));
    x.tell(x.then(2, 4));
    x.seed(99);
    x.set(6, 1);
    return x;
  }

  private static void spoil(DrownedBell x) {
    x.rain(0, 3, 1);
    x.rain(1, 2, 1);
    x.set(0, 1);
    x.set(2, 1);
    x.set(4, 90);
    x.set(5, 90);
    x.set(6, 0);
    x.set(7, 1);
    x.thing(2, 0);
    x.become(0, 0);
    x.change(0, 2, 50);
    x.change(1, 3, 1);
    x.fisher(0, 0);
    x.text(0);
    Due.text(x, 1, "9");
    x.hours(30);
    x.tell(1);
    x.check();
    x.tell(1);
    x.seed(2);
    x.set(4, 0);
    x.set(3, 600);
    x.rain(1, 12, 9);
    Due.text(x, 1, "0");
    x.hours(24);
    x.set(3, 17);
  }

  private static void alike(DrownedBell x, DrownedBell y) {
    for (int what = 0; what < 13; what++) {
      Due.is("35: now " + what, x.now(what), y.now(what));
      Due.is("35: then " + what, x.then(30, what), y.then(30, what));
    }
    for (int what = 0; what < 8; what++) {
      Due.is("35: count " + what, x.count(what), y.count(what));
      Due.is("35: fisher 0 " + what, x.ofFisher(0, what), y.ofFisher(0, what));
      Due.is("35: fisher 1 " + what, x.ofFisher(1, what), y.ofFisher(1, what));
    }
    for (int note = 0; note <= 9; note++) {
      Due.is("35: dry " + note, x.book(note, 0), y.book(note, 0));
      Due.is("35: wet " + note, x.book(note, 1), y.book(note, 1));
    }
    Due.is("35: rings", x.law(0, 7, 0, 0), y.law(0, 7, 0, 0));
    Due.is("35: lets", x.law(1, 99, 0, 7), y.law(1, 99, 0, 7));
    Due.is("35: shows", x.shows(), y.shows());
    Due.is("35: tape", x.text(0), y.text(0));
    Due.is("35: rings by the tape", x.law(0, 7, 0, 0), y.law(0, 7, 0, 0));
    Due.is("35: numbers that wait", x.check(), y.check());
  }

  private static void imageKeeps() {
    DrownedBell x = full();
    Due.is("35: first", x.image(), 1);
    alike(full(), full());
    spoil(x);
    Due.is("36: hour", x.restore(), 5);
    alike(x, full());
    spoil(x);
    Due.is("36: it stays", x.restore(), 5);
    alike(x, full());
  }

  private static void imageLeaves() {
    DrownedBell x = full();
    x.sheet(0, 8, 2);
    x.image();
    x.voice(0, 3, 1);
    int bodies = x.count(6);
    x.put(0, 0, 5);
    x.sheet(1, 16, 1);
    x.now(99);
    Due.is("36: restored", x.restore(), 5);
    Due.is("35: the trace is not in it", x.count(6), bodies);
    Due.is("35: sheets are not in it", x.rains(0, 1), 2);
    Due.is("35: number put", x.rain(1, 0, 0), 5);
    Due.is("35: sheet laid", x.judge(1), 1);
    Due.is("35: what is told is not in it", x.told(1), 1);
    Due.is("35: how often is not in it", x.image(), 2);
  }

  private static void imageAgain() {
    DrownedBell x = new DrownedBell();
    x.image();
    x.hours(3);
    Due.is("35: in place", x.image(), 2);
    x.hours(3);
    Due.is("36: the later one", x.restore(), 3);
    Due.is("36: level of the later one", x.now(4), 285);
    Due.is("36: how often stays", x.image(), 3);
  }

  /** What was full is full again. */
  private static void imageOfTheFull() {
    DrownedBell x = new DrownedBell();
    for (int i = 0; i < 8; i++) {
      x.fisher(i, i);
    }
    for (int i = 0; i < 20; i++) {
      x.tell(295 - 5 * i);
    }
    Due.feed(x, "1+1+1+1+1+1+1+1+1+1+1+1+1+1+1+1+1+1+1+1+1+1+1+1+10");
    x.image();
    Due.is("38: all are so", x.check(), 0);
    Due.is("16: taken", x.text(0), 1);
    Due.is("36: hour 0", x.restore(), 0);
    Due.is("36: full of fishers", x.fisher(0, 0), Due.FULL);
    Due.is("36: full of numbers", x.tell(0), Due.FULL);
    Due.is("36: full of bytes", x.feed(0, 1), Due.FULL);
    Due.is("36: told three times", x.told(4), 3);
    Due.is("36: without the text", x.law(0, 9, 0, 0), 5);
    Due.is("38: all are so again", x.check(), 0);
    Due.is("16: taken again", x.text(0), 1);
    Due.is("17: gives", x.law(0, 9, 0, 0), 20);
  }

  /** Each number that waits, each of FISHERS, each of THINGS and each byte is what it was. */
  private static void imageOverwritten() {
    DrownedBell x = new DrownedBell();
    for (int i = 0; i < 8; i++) {
      x.fisher(i, i);
    }
    for (int i = 0; i < 20; i++) {
      x.tell(295 - 5 * i);
    }
    Due.feed(x, "!0*c-1-1-1-1-1-1-1-1-1-1-1-1-1-1-1-1-1-1-1-1-1-1-1");
    x.image();
    x.check();
    for (int i = 0; i < 20; i++) {
      x.tell(7);
    }
    for (int i = 0; i < 8; i++) {
      x.become(i, 69);
      x.change(i, 2, 99);
      x.change(i, 3, 100 + i);
    }
    for (int i = 0; i < 6; i++) {
      x.thing(i, 0);
    }
    Due.is("16: taken", x.text(0), 1);
    Due.feed(x, "99999999999999999999999999999999999999999999999999");
    Due.is("36: hour 0", x.restore(), 0);
    for (int i = 0; i < 8; i++) {
      int[] were = {0, i, i, 20};
      for (int what = 0; what < 4; what++) {
        Due.is("36: fisher " + i + " what " + what, x.ofFisher(i, what), were[what]);
      }
    }
    for (int i = 0; i < 6; i++) {
      Due.is("36: thing " + i, x.thing(i, 0), 100 * (i + 1));
    }
    Due.is("36: each number that waits", x.check(), 0);
    Due.is("36: each byte", x.text(0), 1);
    Due.is("17: gives", x.law(0, 33, 0, 0), 10);
  }

  /** What was empty is empty again, and what comes then is new. */
  private static void imageOfTheNew() {
    DrownedBell x = new DrownedBell();
    x.image();
    Due.text(x, 0, "9");
    Due.text(x, 1, "1");
    x.fisher(61, 7);
    x.change(0, 3, 99);
    x.rain(1, 0, 9);
    x.hours(30);
    x.tell(4);
    x.feed(0x31, 1);
    x.seed(8);
    x.set(6, 1);
    Due.is("36: hour 0", x.restore(), 0);
    int[] counts = {0, 0, 0, 0, 0, 0, 0, 1};
    for (int what = 0; what < 8; what++) {
      Due.is("36: count " + what, x.count(what), counts[what]);
    }
    int[] readings = {0, 0, 0, 0, 300, 5, 0, 0, 1, 0, 0, 0, 500};
    for (int what = 0; what < 13; what++) {
      Due.is("36: now " + what, x.now(what), readings[what]);
    }
    for (int note = 0; note <= 9; note++) {
      Due.is("36: book of " + note, x.book(note, 0) + x.book(note, 1), 0);
    }
    Due.is("36: rings without a text", x.law(0, 20, 30, 0), 13);
    Due.is("36: lets without a text", x.law(1, 50, 9, 7), 7);
    Due.is("36: nobody", x.ofFisher(0, 0), Due.BEYOND);
    Due.is("8: the first", x.fisher(22, 3), 0);
    int[] traits = {2, 2, 3, 20, 0, 0, 0, 0};
    for (int what = 0; what < 8; what++) {
      Due.is("8: as new " + what, x.ofFisher(0, what), traits[what]);
    }
    Due.is("16: the tape is empty", x.text(0), -10);
    Due.is("38: none waits", x.check(), 0);
    x.hours(1);
    Due.is("18: no hour ahead of the first", x.book(0, 0), 0);
  }

  private static void restoreFromTheLastHour() {
    DrownedBell x = new DrownedBell();
    for (int i = 0; i < 41; i++) {
      x.hours(240);
    }
    x.hours(158);
    x.image();
    x.hours(1);
    Due.is("18: none behind the last", x.hours(1), Due.STATE);
    Due.is("36: the last but one", x.restore(), 9998);
    Due.is("18: two are too many", x.hours(2), Due.STATE);
    Due.is("18: one goes by", x.hours(1), 0);
    Due.is("18: none behind the last again", x.loose(1), Due.STATE);
    x.image();
    Due.is("36: the last", x.restore(), 9999);
  }

  private static void tell() {
    DrownedBell x = new DrownedBell();
    for (int i = 1; i <= 20; i++) {
      Due.is("37: waits", x.tell(i == 1 ? Integer.MIN_VALUE : -i), i);
    }
    Due.is("37: full", x.tell(0), Due.FULL);
    Due.is("37: 20 wait", x.count(5), 20);
    Due.is("37: told", x.told(4), 1);
    x.check();
    Due.is("37: from 1 again", x.tell(0), 1);
  }

  private static void check() {
    DrownedBell x = new DrownedBell();
    Due.is("38: none waits", x.check(), 0);
    x.tell(295);
    x.tell(290);
    x.tell(285);
    Due.is("38: all are so", x.check(), 0);
    Due.is("38: none waits then", x.count(5), 0);
    Due.is("38: hour as it was", x.count(0), 0);
    x.tell(295);
    x.tell(290);
    x.tell(300);
    x.tell(280);
    Due.is("38: the third", x.check(), 3);
    Due.is("38: none waits, too", x.check(), 0);
    x.tell(300);
    Due.is("38: the first", x.check(), 1);
    for (int i = 1; i <= 20; i++) {
      x.tell(i == 20 ? 0 : 300 - 5 * i);
    }
    Due.is("38: the last of 20", x.check(), 20);
    x.hours(1);
    x.tell(290);
    Due.is("38: from now on", x.check(), 0);
  }

  private static void checkEdges() {
    DrownedBell x = Due.wetOne();
    int[] wrong = {Integer.MIN_VALUE, Integer.MAX_VALUE, -1, 601, 312, 314};
    for (int v : wrong) {
      x.tell(v);
      Due.is("38: " + v + " is not so", x.check(), 1);
      Due.is("38: " + v + " waits no more", x.count(5), 0);
    }
    x.tell(313);
    Due.is("38: one is so", x.check(), 0);
    for (int place = 0; place < 20; place++) {
      for (int i = 0; i < 20; i++) {
        x.tell(300 + 13 * (i + 1) + (i == place ? 1 : 0));
      }
      Due.is("38: the place " + place, x.check(), 1 + place);
    }
  }

  private static void count() {
    DrownedBell x = new DrownedBell();
    Due.text(x, 0, "9");
    x.fisher(0, 0);
    x.fisher(20, 99);
    x.fisher(60, 0);
    x.change(1, 3, 7);
    x.hours(4);
    Due.feed(x, "1234567890");
    x.tell(1);
    x.voice(0, 3, 0);
    x.seed(-5);
    int[] want = {4, 3, 8, 47, 10, 1, 4, -5};
    for (int what = 0; what < 8; what++) {
      Due.is("39: count " + what, x.count(what), want[what]);
    }
    Due.is("39: beyond below", x.count(-1), Due.BEYOND);
    Due.is("39: beyond above", x.count(8), Due.BEYOND);
    x.seed(Due.BEYOND);
    Due.is("39: any number", x.count(7), Due.BEYOND);
    Due.is("39: told", x.told(1), 2);
  }

  private static void told() {
    DrownedBell x = new DrownedBell();
    Due.is("40: beyond above", x.told(6), Due.BEYOND);
    Due.is("40: beyond below", x.told(0), Due.BEYOND);
    Due.is("40: counted, too", x.told(1), 2);
    x.odds(10, 0);
    Due.is("40: in longs, too", x.told(1), 3);
    x.sell();
    x.restore();
    Due.is("40: none", x.told(2), 2);
    x.sheet(0, 8, -1);
    Due.is("40: state", x.told(3), 1);
    for (int i = 0; i < 7; i++) {
      x.feed(0, 8);
    }
    Due.is("40: full", x.told(4), 1);
    x.fisher(0, 0);
    x.as(0, 1);
    Due.is("40: kind", x.told(5), 1);
    Due.is("40: a fault is no error", x.text(0), -10);
    Due.is("40: beyond as before", x.told(1), 3);
    Due.is("40: beyond far", x.told(Integer.MIN_VALUE), Due.BEYOND);
    Due.is("40: counted again", x.told(1), 4);
  }
}
