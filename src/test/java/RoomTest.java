import com.sun.management.ThreadMXBean;
import java.lang.management.ManagementFactory;

/** All calls of one run live in one room: an object takes little of it, its calls none. */
public final class RoomTest {
  private static final ThreadMXBean MACHINE = (ThreadMXBean) ManagementFactory.getThreadMXBean();
  private static final long SELF = Thread.currentThread().getId();
  private static final int TURNS = 11;
  /** Rows of some 1400 numbers and what holds them; far below 7300000 fields by 512 objects. */
  private static final int OBJECT_BYTES = 16384;
  /** What the machine itself may take while it runs; one small object a turn would be more. */
  private static final int SLACK_BYTES = 128;

  private static long sum;
  /** The first run loads what the machine needs once. */
  private static boolean warm;

  private RoomTest() {
  }

  public static void main(String[] args) {
    run();
    run();
    Due.yes("all calls answered", sum != 0);
    Due.end();
  }

  private static void run() {
    long start = taken();
    DrownedBell x = new DrownedBell();
    long made = taken();
    for (int i = 0; i < TURNS; i++) {
      turn(x);
    }
    long end = taken();
    if (warm) {
      Due.yes("a new object takes " + (made - start) + " bytes", made - start <= OBJECT_BYTES);
      Due.yes("its calls take " + (end - made) + " bytes", end - made <= SLACK_BYTES);
    }
    warm = true;
  }

  private static long taken() {
    return MACHINE.getThreadAllocatedBytes(SELF);
  }

  private static void turn(DrownedBell x) {
    sum += x.rain(1, 2, 9) + x.set(3, 300) + x.now(2) + x.led(2) + x.thing(0, 9) + x.shows() + x.fisher(45, 3);
    sum += x.ofFisher(0, 7) + x.change(0, 2, 5) + x.become(0, 61) + x.as(0, 3) + x.bids(0, 1, 2) + x.sell();
    sum += x.feed(0x3228212B63L, 5) + x.text(1) + x.feed(0x29322B6328L, 5) + x.text(0) + x.law(0, 1, 2, 3);
    sum += x.hours(3) + x.loose(3) + x.then(240, 3) + x.thenFisher(240, 0, 7) + x.falls(240) + x.book(0, 0);
    sum += x.odds(0, 1) + x.gateFor(0, 1, 48) + x.shown(0, 240) + x.seed(5) + x.voice(0, 3, 1) + x.trace(2);
    sum += x.sheet(0, 8, 40) + x.put(0, 1, 2) + x.move(0, 1, 0, 0, 30) + x.rains(0, 0) + x.judge(0);
    sum += x.image() + x.restore() + x.tell(9) + x.tell(9) + x.check() + x.count(2) + x.told(1);
  }
}
