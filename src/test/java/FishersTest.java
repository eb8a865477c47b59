/** Promises 8 to 14: fishers. */
public final class FishersTest {
  private FishersTest() {
  }

  public static void main(String[] args) {
    fisher();
    traits();
    hears();
    hearsNobody();
    hearsFromFar();
    eight();
    change();
    become();
    as();
    bids();
    bidsWrong();
    sell();
    sellPays();
    sellToOneOfFive();
    sellNone();
    Due.end();
  }

  private static void fisher() {
    DrownedBell x = new DrownedBell();
    int[][] wrong = {{-1, 0}, {70, 0}, {0, -1}, {0, 100}};
    for (int[] w : wrong) {
      Due.is("8: beyond " + w[0] + " " + w[1], x.fisher(w[0], w[1]), Due.BEYOND);
    }
    Due.is("8: nobody yet", x.count(1), 0);
    for (int i = 0; i < 8; i++) {
      Due.is("8: number", x.fisher(i < 7 ? 10 * i + i : 69, i == 7 ? 99 : i), i);
    }
    Due.is("8: beyond ahead of full", x.fisher(70, 0), Due.BEYOND);
    Due.is("8: full", x.fisher(0, 0), Due.FULL);
    Due.is("8: eight", x.count(1), 8);
    Due.is("8: told full", x.told(4), 1);
    Due.is("8: last kind", x.ofFisher(7, 0), 6);
    Due.is("8: last m", x.ofFisher(7, 1), 9);
    Due.is("8: last far", x.ofFisher(7, 2), 99);
  }

  private static void traits() {
    DrownedBell x = Due.steadyOne();
    Due.text(x, 0, "9");
    x.fisher(14, 30);
    int[] first = {1, 4, 30, 20, 0, 0, 1, 4};
    for (int what = 0; what < 8; what++) {
      Due.is("9: first " + what, x.ofFisher(0, what), first[what]);
    }
    x.hours(3);
    int[] later = {1, 4, 30, 20, 3, 1, 1, 14};
    for (int what = 0; what < 8; what++) {
      Due.is("9: later " + what, x.ofFisher(0, what), later[what]);
    }
    x.set(6, 1);
    Due.is("9: hears nothing now", x.ofFisher(0, 6), 0);
    Due.is("9: latest as it was", x.ofFisher(0, 5), 1);
    x.hours(1);
    Due.is("9: not latest", x.ofFisher(0, 5), 0);
    Due.is("9: heard as it was", x.ofFisher(0, 4), 3);
    int[][] wrong = {{-1, 0}, {1, 0}, {0, -1}, {0, 8}};
    for (int[] w : wrong) {
      Due.is("9: beyond " + w[0] + " " + w[1], x.ofFisher(w[0], w[1]), Due.BEYOND);
    }
  }

  private static void oneHears(String strikes, int km, int far, int want) {
    DrownedBell x = new DrownedBell();
    Due.text(x, 0, strikes);
    x.fisher(km, far);
    Due.is("9: hears, strikes " + strikes + " km " + km + " far " + far, x.ofFisher(0, 6), want);
    x.hours(1);
    Due.is("18: heard, strikes " + strikes + " km " + km + " far " + far, x.ofFisher(0, 4), want);
  }

  private static void hears() {
    oneHears("1", 9, 9, 1);
    oneHears("1", 9, 10, 0);
    oneHears("1", 13, 6, 1);
    oneHears("1", 13, 7, 0);
    oneHears("5", 20, 0, 1);
    oneHears("5", 20, 1, 0);
    oneHears("2", 30, 19, 1);
    oneHears("2", 30, 20, 0);
    oneHears("2", 30, 18, 1);
    oneHears("1", 30, 0, 0);
    oneHears("3", 30, 1, 0);
    oneHears("2", 43, 99, 1);
    oneHears("2", 44, 99, 0);
    oneHears("1", 43, 6, 1);
    oneHears("1", 43, 7, 0);
    oneHears("11", 52, 99, 1);
    oneHears("10", 52, 0, 0);
    oneHears("18", 59, 0, 1);
    oneHears("17", 59, 0, 0);
    oneHears("1", 60, 99, 1);
  }

  private static void hearsNobody() {
    for (int kind = 0; kind < 7; kind++) {
      oneHears("0", 10 * kind, 0, 0);
    }
  }

  /** LOUD is far below 0; STRIKES are many. */
  private static void hearsFromFar() {
    oneHears("1", 9, 99, 0);
    oneHears("9", 0, 90, 0);
    oneHears("9", 0, 89, 1);
    oneHears("1", 13, 99, 0);
    oneHears("1", 10, 9, 1);
    oneHears("1", 10, 10, 0);
    oneHears("10", 19, 91, 0);
    oneHears("10", 19, 90, 1);
    oneHears("1", 20, 99, 0);
    oneHears("20", 20, 99, 1);
    oneHears("14", 20, 91, 0);
    oneHears("14", 20, 90, 1);
    oneHears("8", 30, 99, 0);
    oneHears("20", 30, 99, 1);
    oneHears("19", 30, 0, 0);
    oneHears("1", 40, 99, 0);
    oneHears("9", 40, 90, 0);
    oneHears("9", 41, 90, 1);
    oneHears("8", 49, 99, 1);
    oneHears("9", 50, 99, 1);
    oneHears("8", 50, 0, 0);
    oneHears("20", 50, 99, 1);
    oneHears("20", 59, 99, 1);
    oneHears("20", 60, 0, 1);
    oneHears("1", 69, 99, 1);
  }

  private static void eight() {
    DrownedBell x = Due.steadyOne();
    Due.text(x, 0, "9");
    for (int i = 0; i < 8; i++) {
      x.fisher(0, 10 * i);
    }
    x.hours(3);
    for (int i = 0; i < 8; i++) {
      Due.is("18: heard by " + i, x.ofFisher(i, 4), 3);
    }
    Due.is("39: heard of all", x.count(2), 24);
    Due.is("39: purses of all", x.count(3), 160);
    x.change(7, 3, 99);
    Due.is("39: the last one's purse, too", x.count(3), 239);
    Due.is("21: the last one ahead", x.thenFisher(5, 7, 4), 8);
  }

  private static void change() {
    DrownedBell x = new DrownedBell();
    x.fisher(9, 5);
    Due.is("10: far", x.change(0, 2, 99), 5);
    Due.is("10: far was", x.change(0, 2, 0), 99);
    Due.is("10: purse", x.change(0, 3, 9999), 20);
    Due.is("10: purse was", x.change(0, 3, 0), 9999);
    int[][] wrong = {{-1, 2, 0}, {1, 2, 0}, {0, 2, -1}, {0, 2, 100}, {0, 3, -1}, {0, 3, 10000},
        {0, 0, 0}, {0, 1, 0}, {0, 4, 0}, {0, 5, 0}, {0, 6, 0}, {0, 7, 0}, {0, -1, 0}, {0, 8, 0}};
    for (int[] w : wrong) {
      Due.is("10: beyond " + w[0] + " " + w[1] + " " + w[2], x.change(w[0], w[1], w[2]), Due.BEYOND);
    }
    Due.is("10: far unchanged", x.ofFisher(0, 2), 0);
    Due.is("10: purse unchanged", x.ofFisher(0, 3), 0);
  }

  private static void become() {
    DrownedBell x = new DrownedBell();
    Due.text(x, 0, "9");
    x.fisher(5, 7);
    x.change(0, 3, 33);
    x.hours(1);
    Due.is("11: was", x.become(0, 69), 0);
    int[] want = {6, 9, 7, 33, 1, 1};
    for (int what = 0; what < 6; what++) {
      Due.is("11: now " + what, x.ofFisher(0, what), want[what]);
    }
    Due.is("11: was diver", x.become(0, 0), 6);
    int[][] wrong = {{-1, 0}, {1, 0}, {0, -1}, {0, 70}};
    for (int[] w : wrong) {
      Due.is("11: beyond " + w[0] + " " + w[1], x.become(w[0], w[1]), Due.BEYOND);
    }
    Due.is("11: unchanged", x.ofFisher(0, 0), 0);
  }

  private static void as() {
    int[] above = {1, 1 | 2, 1 | 4, 1 | 8, 1 | 2 | 16, 1 | 4 | 32, 1 | 8 | 64};
    DrownedBell x = new DrownedBell();
    int kinds = 0;
    for (int kind = 0; kind < 7; kind++) {
      x.fisher(10 * kind + kind + 1, 0);
      for (int as = 0; as < 7; as++) {
        boolean is = (above[kind] >> as & 1) == 1;
        kinds += is ? 0 : 1;
        Due.is("12: " + kind + " as " + as, x.as(kind, as), is ? kind + 1 : Due.KIND);
      }
    }
    Due.is("12: told", x.told(5), kinds);
    int[][] wrong = {{-1, 0}, {7, 0}, {0, -1}, {0, 7}};
    for (int[] w : wrong) {
      Due.is("12: beyond " + w[0] + " " + w[1], x.as(w[0], w[1]), Due.BEYOND);
    }
  }

  private static void bids() {
    DrownedBell x = new DrownedBell();
    for (int kind = 0; kind < 7; kind++) {
      x.fisher(10 * kind + 7, 0);
      x.change(kind, 3, 9999);
    }
    int[] third = {3, 10, 0, 1, 20, 1, 8};
    int[] nothing = {0, 7, 0, 0, 14, 1, 7};
    int[] most = {9990, 9997, 0, 4995, 9999, 1, 5002};
    for (int kind = 0; kind < 7; kind++) {
      Due.is("13: 1 by 3, kind " + kind, x.bids(kind, 1, 3), third[kind]);
      Due.is("13: 0 by 999, kind " + kind, x.bids(kind, 0, 999), nothing[kind]);
      Due.is("13: 999 by 1, kind " + kind, x.bids(kind, 999, 1), most[kind]);
      x.change(kind, 3, 0);
      Due.is("13: empty purse, kind " + kind, x.bids(kind, 1, 1), 0);
    }
    x.change(3, 3, 30);
    Due.is("13: half, then held", x.bids(3, 4, 1), 20);
    x.change(0, 3, 30);
    Due.is("13: held", x.bids(0, 4, 1), 30);
    Due.is("13: all is free", x.count(3), 60);
  }

  private static void bidsWrong() {
    DrownedBell x = new DrownedBell();
    x.fisher(0, 0);
    int[][] wrong = {{-1, 1, 1}, {1, 1, 1}, {0, -1, 1}, {0, 1000, 1}, {0, 1, 0}, {0, 1, -1}, {0, 1, 1000}};
    for (int[] w : wrong) {
      Due.is("13: beyond " + w[0] + " " + w[1] + " " + w[2], x.bids(w[0], w[1], w[2]), Due.BEYOND);
    }
  }

  private static void sell() {
    DrownedBell x = Due.steadyOne();
    Due.text(x, 0, "9");
    x.fisher(0, 0);
    x.fisher(15, 0);
    x.fisher(15, 0);
    x.fisher(49, 99);
    x.hours(2);
    x.fisher(49, 0);
    Due.is("14: the least of two", x.sell(), 1);
    Due.is("14: pays what the other bids", x.ofFisher(1, 3), 5);
    Due.is("14: the other one", x.sell(), 2);
    Due.is("14: pays the third", x.ofFisher(2, 3), 10);
    Due.is("14: the least of two again", x.sell(), 0);
    Due.is("14: pays 10", x.ofFisher(0, 3), 10);
    Due.is("14: nobody else paid", x.count(3), 65);
    x.change(0, 3, 0);
    x.change(1, 3, 0);
    Due.is("14: alone", x.sell(), 2);
    Due.is("14: pays nothing", x.ofFisher(2, 3), 10);
  }

  private static void sellPays() {
    DrownedBell x = Due.steadyOne();
    Due.text(x, 0, "9");
    x.fisher(51, 0);
    x.fisher(61, 0);
    x.fisher(20, 0);
    x.hours(2);
    Due.is("14: 6 is most", x.sell(), 1);
    Due.is("14: pays 0, as STONE has not heard", x.ofFisher(1, 3), 20);
    x.become(0, 10);
    x.hours(1);
    x.change(0, 3, 6);
    Due.is("14: 6 by 6, held by a purse", x.sell(), 0);
    Due.is("14: all that was in the purse", x.ofFisher(0, 3), 0);
    Due.is("14: none is paid to the other", x.ofFisher(1, 3), 20);
    Due.is("14: the other one, ahead of 0", x.sell(), 1);
    Due.is("14: pays 0 as the others bid 0", x.ofFisher(1, 3), 20);
    Due.is("14: again, as latest stays", x.sell(), 1);
    x.set(6, 1);
    x.hours(1);
    Due.is("14: latest nobody", x.sell(), Due.NONE);
    x.set(6, 0);
    x.hours(1);
    Due.is("14: latest again", x.sell(), 1);
    Due.text(x, 0, "4");
    x.hours(1);
    Due.is("14: odds of past are 0 by 1", x.odds(5, 0), 0);
    Due.is("14: the diver bids 1 by them", x.sell(), 1);
    x.become(1, 60);
    Due.is("14: bids 0 by them", x.sell(), Due.NONE);
  }

  /** They bid 10, 19, 12, 15 and 10 at first, and no more than their purses then. */
  private static void sellToOneOfFive() {
    DrownedBell x = Due.steadyOne();
    Due.text(x, 0, "9");
    int[] kinds = {0, 19, 12, 15, 0};
    for (int km : kinds) {
      x.fisher(km, 0);
    }
    x.hours(2);
    int[] buyers = {1, 3, 2, 0};
    int[] left = {5, 8, 10, 10};
    for (int i = 0; i < buyers.length; i++) {
      Due.is("14: of five, turn " + i, x.sell(), buyers[i]);
      Due.is("14: of five, purse in turn " + i, x.ofFisher(buyers[i], 3), left[i]);
    }
  }

  private static void sellNone() {
    DrownedBell x = Due.steadyOne();
    Due.text(x, 0, "9");
    Due.is("14: no fishers", x.sell(), Due.NONE);
    x.fisher(0, 0);
    x.fisher(20, 0);
    Due.is("14: not latest", x.sell(), Due.NONE);
    x.hours(1);
    Due.is("14: bids 0", x.sell(), Due.NONE);
    x.hours(1);
    x.change(0, 3, 0);
    Due.is("14: empty purse", x.sell(), Due.NONE);
    x.change(0, 3, 1);
    Due.is("14: one is enough", x.sell(), 0);
    Due.is("14: told", x.told(2), 4);
  }
}
