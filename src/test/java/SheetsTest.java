/** Promises 30 to 34: sheets. */
public final class SheetsTest {
  private SheetsTest() {
  }

  public static void main(String[] args) {
    sheet();
    sheetWrong();
    put();
    putLowest();
    move();
    moveOrder();
    rains();
    rainsEdges();
    rainsDay();
    moveEdges();
    putEdges();
    judge();
    judgeMuffled();
    judgeBySilt();
    judgeLeaves();
    Due.end();
  }

  /** A SHEET of numbers, 32 bits each. */
  private static void lay(DrownedBell x, int sheet, int... numbers) {
    x.sheet(sheet, 32, numbers.length);
    for (int i = 0; i < numbers.length; i++) {
      x.put(sheet, i, numbers[i]);
    }
  }

  /** A number of a SHEET can be seen only by what it brings: how many RAINS come up to it. */
  private static void seen(String what, DrownedBell x, int sheet, int... numbers) {
    int fits = 0;
    while (fits < numbers.length && numbers[fits] >= 0 && numbers[fits] <= 9) {
      fits++;
    }
    Due.is(what + ": how many", x.rains(sheet, 0), fits);
    for (int i = 0; i < fits; i++) {
      Due.is(what + ": " + i, x.rain(0, i, 0), numbers[i]);
    }
  }

  private static void sheet() {
    DrownedBell x = new DrownedBell();
    Due.is("30: missing at first", x.rains(0, 0), Due.NONE);
    Due.is("30: laid", x.sheet(0, 8, 3), 1);
    seen("30: all 0", x, 0, 0, 0, 0);
    x.put(0, 1, 5);
    Due.is("30: laid again", x.sheet(0, 8, 4), 1);
    seen("30: all 0 again", x, 0, 0, 0, 0, 0);
    Due.is("30: none at all", x.sheet(3, 16, 0), 1);
    Due.is("30: not missing", x.rains(3, 0), 0);
    Due.is("30: most", x.sheet(3, 32, 40), 1);
    Due.is("30: the last number", x.put(3, 39, 1), 1);
    Due.is("30: missing again", x.sheet(3, 0, 9), 1);
    Due.is("30: is missing", x.put(3, 0, 0), Due.NONE);
    Due.is("30: n doesn't matter", x.sheet(3, 0, -1), 1);
    Due.is("30: n doesn't matter at all", x.sheet(3, 0, 1000), 1);
    Due.is("30: the others stay", x.rains(0, 0), 4);
  }

  private static void sheetWrong() {
    DrownedBell x = new DrownedBell();
    x.sheet(1, 8, 2);
    int[][] beyond = {{-1, 8, 1}, {4, 8, 1}, {1, 1, 1}, {1, -8, 1}, {1, 24, 1}, {1, 64, 1}, {1, 8, 41},
        {4, 8, -1}, {1, 7, -1}, {4, 0, 0}, {1, 32, Integer.MAX_VALUE}};
    for (int[] w : beyond) {
      Due.is("30: beyond " + w[0] + " " + w[1] + " " + w[2], x.sheet(w[0], w[1], w[2]), Due.BEYOND);
    }
    Due.is("30: state", x.sheet(1, 8, -1), Due.STATE);
    Due.is("30: state of the least", x.sheet(1, 32, Integer.MIN_VALUE), Due.STATE);
    Due.is("30: as it was", x.rains(1, 0), 2);
    Due.is("30: told beyond", x.told(1), beyond.length);
    Due.is("30: told state", x.told(3), 2);
  }

  private static void put() {
    DrownedBell x = new DrownedBell();
    Due.is("31: no such sheet", x.put(4, 0, 0), Due.BEYOND);
    Due.is("31: no such sheet below", x.put(-1, 0, 0), Due.BEYOND);
    Due.is("31: missing", x.put(0, 0, 0), Due.NONE);
    Due.is("31: missing ahead of the number", x.put(0, -1, 0), Due.NONE);
    x.sheet(0, 16, 3);
    Due.is("31: no such number", x.put(0, 3, 0), Due.BEYOND);
    Due.is("31: no such number below", x.put(0, -1, 0), Due.BEYOND);
    Due.is("31: first", x.put(0, 0, 7), 1);
    Due.is("31: last", x.put(0, 2, 9), 1);
    seen("31: as put", x, 0, 7, 0, 9);
    Due.is("31: told beyond", x.told(1), 4);
    Due.is("31: told none", x.told(2), 2);
  }

  private static void putLowest() {
    DrownedBell x = new DrownedBell();
    x.sheet(0, 8, 3);
    x.put(0, 0, 0x105);
    x.put(0, 1, -256 + 4);
    x.put(0, 2, 0x80);
    seen("31: 8 bits", x, 0, 5, 4, 128);
    x.sheet(0, 16, 3);
    x.put(0, 0, 0x10005);
    x.put(0, 1, -65536 + 4);
    x.put(0, 2, 0x105);
    seen("31: 16 bits", x, 0, 5, 4, 261);
    x.sheet(0, 32, 2);
    x.put(0, 0, 6);
    x.put(0, 1, 0x10005);
    seen("31: 32 bits", x, 0, 6, 65541);
    x.put(0, 0, -1);
    seen("31: below 0", x, 0, -1);
  }

  private static void move() {
    DrownedBell x = new DrownedBell();
    lay(x, 0, 1, 2, 3, 4, 5);
    lay(x, 1, 0, 0, 0);
    Due.is("32: two", x.move(0, 3, 1, 1, 2), 2);
    seen("32: came", x, 1, 0, 4, 5);
    seen("32: stay there", x, 0, 1, 2, 3, 4, 5);
    Due.is("32: up within one", x.move(0, 0, 0, 1, 4), 4);
    seen("32: as they all were", x, 0, 1, 1, 2, 3, 4);
    Due.is("32: down within one", x.move(0, 1, 0, 0, 4), 4);
    seen("32: as they all were again", x, 0, 1, 2, 3, 4, 4);
    Due.is("32: none", x.move(0, 5, 1, 3, 0), 0);
    Due.is("32: all", x.move(1, 0, 0, 2, 3), 3);
    seen("32: all came", x, 0, 1, 2, 0, 4, 5);
    int[][] wrong = {{0, 0, 1, 0, -1}, {0, -1, 1, 0, 1}, {0, 0, 1, -1, 1}, {0, 5, 1, 0, 1}, {0, 3, 1, 0, 3},
        {0, 0, 1, 3, 1}, {0, 0, 1, 0, 4}, {1, 0, 0, 0, 4}, {0, 6, 1, 0, 0}, {0, 0, 1, 4, 0},
        {0, Integer.MAX_VALUE, 1, 0, 1}, {0, 1, 1, 0, Integer.MAX_VALUE}, {0, 0, 1, Integer.MAX_VALUE, 2},
        {0, Integer.MIN_VALUE, 1, 0, Integer.MIN_VALUE}};
    for (int[] w : wrong) {
      Due.is("32: beyond " + w[1] + " " + w[3] + " " + w[4], x.move(w[0], w[1], w[2], w[3], w[4]), Due.BEYOND);
    }
    seen("32: unchanged", x, 1, 0, 4, 5);
    Due.is("32: told", x.told(1), wrong.length);
  }

  private static void moveOrder() {
    DrownedBell x = new DrownedBell();
    x.sheet(0, 8, 2);
    x.sheet(1, 16, 2);
    x.sheet(2, 8, 1);
    Due.is("32: no such sheet", x.move(4, 0, 0, 0, 1), Due.BEYOND);
    Due.is("32: no such other", x.move(3, 0, -1, 0, 1), Due.BEYOND);
    Due.is("32: missing", x.move(3, -1, 0, 0, -1), Due.NONE);
    Due.is("32: the other one missing", x.move(0, 0, 3, 0, 1), Due.NONE);
    Due.is("32: unlike", x.move(0, -1, 1, 0, -1), Due.KIND);
    Due.is("32: alike", x.move(0, 1, 2, 0, 1), 1);
    Due.is("32: told", x.told(5), 1);
  }

  private static void rains() {
    DrownedBell x = new DrownedBell();
    for (int hour = 0; hour < 24; hour++) {
      x.rain(1, hour, 1);
    }
    lay(x, 0, 9, 0, 10, 5);
    Due.is("33: up to 10", x.rains(0, 1), 2);
    Due.is("33: first", x.rain(1, 0, 1), 9);
    Due.is("33: second", x.rain(1, 1, 1), 0);
    Due.is("33: third stays", x.rain(1, 2, 1), 1);
    Due.is("33: fourth stays", x.rain(1, 3, 1), 1);
    x.put(0, 2, -1);
    Due.is("33: up to -1", x.rains(0, 2), 2);
    x.put(0, 2, 9);
    Due.is("33: all", x.rains(0, 2), 4);
    Due.is("33: the last", x.rain(2, 3, 0), 5);
    x.put(0, 0, 11);
    Due.is("33: none came", x.rains(0, 2), 0);
  }

  private static void rainsEdges() {
    DrownedBell x = new DrownedBell();
    x.sheet(0, 8, 40);
    for (int i = 0; i < 40; i++) {
      x.put(0, i, i < 24 ? 3 : 4);
    }
    Due.is("33: up to the 24th", x.rains(0, 0), 24);
    Due.is("33: the 24th", x.rain(0, 23, 0), 3);
    Due.is("33: not the next stream", x.rain(1, 0, 0), 0);
    Due.is("33: the last stream", x.rains(0, 2), 24);
    int[][] wrong = {{-1, 0}, {4, 0}, {0, -1}, {0, 3}, {1, 3}};
    for (int[] w : wrong) {
      Due.is("33: beyond " + w[0] + " " + w[1], x.rains(w[0], w[1]), Due.BEYOND);
    }
    Due.is("33: missing", x.rains(1, 0), Due.NONE);
  }

  /** What stands at the 24th place and behind it. */
  private static void rainsDay() {
    int[] sizes = {0, 1, 23, 24, 25, 40};
    for (int n : sizes) {
      DrownedBell x = new DrownedBell();
      x.sheet(0, 8, n);
      Due.is("33: of " + n, x.rains(0, 1), Math.min(n, 24));
    }
    DrownedBell x = new DrownedBell();
    x.sheet(0, 8, 25);
    x.put(0, 24, 10);
    Due.is("33: the 25th doesn't matter", x.rains(0, 0), 24);
    x.put(0, 23, 10);
    Due.is("33: the 24th does", x.rains(0, 0), 23);
    x.put(0, 23, 9);
    Due.is("33: 9 at the 24th", x.rains(0, 0), 24);
    Due.is("33: the last hour of the day", x.rain(0, 23, 0), 9);
    x.put(0, 0, 10);
    Due.is("33: none came", x.rains(0, 1), 0);
    Due.is("33: none changed", x.rain(1, 23, 0), 0);
    x.sheet(1, 32, 2);
    x.put(1, 0, Integer.MIN_VALUE);
    Due.is("33: the least", x.rains(1, 0), 0);
    x.put(1, 0, Integer.MAX_VALUE);
    Due.is("33: the most", x.rains(1, 0), 0);
    x.put(1, 0, 0);
    x.put(1, 1, 255);
    Due.is("33: 255", x.rains(1, 0), 1);
  }

  private static void moveEdges() {
    DrownedBell x = new DrownedBell();
    x.sheet(0, 8, 0);
    Due.is("32: none of none", x.move(0, 0, 0, 0, 0), 0);
    Due.is("32: one of none", x.move(0, 0, 0, 0, 1), Due.BEYOND);
    Due.is("32: none behind none", x.move(0, 1, 0, 0, 0), Due.BEYOND);
    x.sheet(1, 8, 40);
    for (int i = 0; i < 40; i++) {
      x.put(1, i, i < 24 ? i % 10 : 0);
    }
    Due.is("32: all on themselves", x.move(1, 0, 1, 0, 40), 40);
    Due.is("32: none to none", x.move(1, 40, 0, 0, 0), 0);
    Due.is("32: one to none", x.move(1, 0, 0, 0, 1), Due.BEYOND);
    Due.is("32: as it was", x.rains(1, 0), 24);
    for (int hour = 0; hour < 24; hour++) {
      Due.is("32: as it was " + hour, x.rain(0, hour, 0), hour % 10);
    }
    Due.is("32: up by one", x.move(1, 0, 1, 1, 39), 39);
    x.rains(1, 0);
    for (int hour = 0; hour < 24; hour++) {
      Due.is("32: up by one " + hour, x.rain(0, hour, 0), hour == 0 ? 0 : (hour - 1) % 10);
    }
    Due.is("32: down by two", x.move(1, 2, 1, 0, 38), 38);
    x.rains(1, 0);
    for (int hour = 0; hour < 23; hour++) {
      Due.is("32: down by two " + hour, x.rain(0, hour, 0), (hour + 1) % 10);
    }
    Due.is("32: the last to the first", x.move(1, 39, 1, 0, 1), 1);
    Due.is("32: the first to the last", x.move(1, 0, 1, 39, 1), 1);
    Due.is("32: one behind the last", x.move(1, 0, 1, 40, 1), Due.BEYOND);
    x.sheet(2, 16, 2);
    x.sheet(3, 32, 2);
    Due.is("32: 16 and 32 bits", x.move(2, 0, 3, 0, 1), Due.KIND);
    Due.is("32: 8 and 32 bits, none", x.move(1, 0, 3, 0, 0), Due.KIND);
  }

  private static void putEdges() {
    int[] bits = {8, 16};
    for (int b : bits) {
      DrownedBell x = new DrownedBell();
      x.sheet(0, b, 5);
      int round = 1 << b;
      int[] v = {round, round + 9, -round, Integer.MIN_VALUE, round - 1};
      for (int i = 0; i < v.length; i++) {
        Due.is("31: put " + v[i] + " of " + b, x.put(0, i, v[i]), 1);
      }
      seen("31: lowest " + b, x, 0, 0, 9, 0, 0, -1);
    }
    DrownedBell x = new DrownedBell();
    x.sheet(0, 32, 4);
    int[] v = {1 << 8, 1 << 16, Integer.MIN_VALUE, -1};
    for (int i = 0; i < v.length; i++) {
      x.put(0, 0, v[i]);
      Due.is("31: all 32 of " + v[i], x.rains(0, 0), 0);
    }
    x.put(0, 0, 9);
    Due.is("31: 9 of 32", x.rains(0, 0), 4);
  }

  private static void judgeLeaves() {
    DrownedBell x = Due.wetOne();
    x.fisher(60, 0);
    x.sheet(0, 16, 40);
    for (int i = 0; i < 40; i++) {
      x.put(0, i, x.then(i, 3));
    }
    Due.is("34: forty notes", x.judge(0), 40);
    Due.is("34: level as it was", x.now(4), 300);
    Due.is("34: nobody heard", x.count(2), 0);
    Due.is("34: strain as it was", x.now(7), 0);
    x.put(0, 39, 10);
    Due.is("34: 10 is no note", x.judge(0), 39);
    x.put(0, 39, x.then(39, 3) + 256);
    Due.is("34: all 16 bits", x.judge(0), 39);
    x.put(0, 0, -1);
    Due.is("34: -1 is no note", x.judge(0), 0);
  }

  private static void judge() {
    DrownedBell x = Due.steadyOne();
    Due.text(x, 0, "c-4");
    lay(x, 0, 1, 1, 1);
    Due.is("34: none is false", x.judge(0), 3);
    x.put(0, 2, 2);
    Due.is("34: the third", x.judge(0), 2);
    x.put(0, 0, 0);
    Due.is("34: the first", x.judge(0), 0);
    x.put(0, 0, 257);
    Due.is("34: no such note", x.judge(0), 0);
    x.rain(1, 1, 8);
    x.rain(1, 2, 0);
    lay(x, 0, 1, 8, 0, 1);
    Due.is("34: hour by hour", x.judge(0), 4);
    x.hours(1);
    Due.is("34: from now on", x.judge(0), 0);
    lay(x, 0, 8, 0, 1);
    Due.is("34: from now on, none", x.judge(0), 3);
    x.sheet(0, 8, 0);
    Due.is("34: empty", x.judge(0), 0);
    DrownedBell y = new DrownedBell();
    y.sheet(3, 16, 40);
    Due.is("34: forty silent hours", y.judge(3), 40);
    y.put(3, 39, 1);
    Due.is("34: the fortieth", y.judge(3), 39);
    Due.is("34: hour as it was", x.count(0), 1);
    Due.is("34: beyond above", x.judge(4), Due.BEYOND);
    Due.is("34: beyond below", x.judge(-1), Due.BEYOND);
    Due.is("34: missing", x.judge(1), Due.NONE);
  }

  /** NOTES change with SILT, though there are as many STRIKES. */
  private static void judgeBySilt() {
    DrownedBell x = new DrownedBell();
    Due.text(x, 0, "4");
    x.set(5, 25);
    lay(x, 0, 7, 7, 6, 6, 5, 5, 5, 5);
    Due.is("34: less silt each hour", x.judge(0), 8);
    x.put(0, 2, 7);
    Due.is("34: the note of an hour ahead", x.judge(0), 2);
    Due.is("34: silt as it was", x.now(6), 25);
    x.rain(0, 0, 9);
    x.rain(0, 1, 9);
    x.set(5, 15);
    lay(x, 1, 6, 7, 7, 7);
    Due.is("34: more silt, then less", x.judge(1), 4);
  }

  private static void judgeMuffled() {
    DrownedBell x = Due.steadyOne();
    Due.text(x, 0, "9");
    lay(x, 0, 1, 0);
    x.set(6, 1);
    Due.is("34: a note of the muffled", x.judge(0), 0);
    x.put(0, 0, 0);
    Due.is("34: silence of the muffled", x.judge(0), 2);
    x.set(6, 0);
    Due.is("34: silence is false", x.judge(0), 0);
    lay(x, 0, 1, 1, 1, 0, 0);
    x.set(7, 39);
    Due.is("34: silence of the fallen", x.judge(0), 5);
  }
}
