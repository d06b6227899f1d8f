import java.lang.management.ManagementFactory;

/** No call makes an object, throws or fails to end, whatever its arguments; a new one is small. */
final class RoomTest {
  private static final Checks C = new Checks();
  private static final int[] ARGUMENTS = {
    Integer.MIN_VALUE, -1000, -9, -1, 0, 1, 2, 3, 5, 7, 9, 40, 60, 99, 255, 1000, Integer.MAX_VALUE
  };
  /** Far above what a machine makes on its own account while it runs. */
  private static final long BYTES_OF_NONE = 4096;
  private static final long BYTES_OF_A_NEW_ONE = 40000;

  private static long sum = 0;

  private RoomTest() {}

  public static void main(String[] args) {
    com.sun.management.ThreadMXBean bean =
        (com.sun.management.ThreadMXBean) ManagementFactory.getThreadMXBean();
    PassedOnAndBetter[] some = {empty(), full(), full()};
    long id = Thread.currentThread().getId();
    all(some[2]);
    for (int i = 0; i < 2; i++) {
      long before = bean.getThreadAllocatedBytes(id);
      all(some[i]);
      long made = bean.getThreadAllocatedBytes(id) - before;
      C.holds("no call makes an object: " + made + " bytes", made < BYTES_OF_NONE);
    }
    long before = bean.getThreadAllocatedBytes(id);
    PassedOnAndBetter x = new PassedOnAndBetter();
    long made = bean.getThreadAllocatedBytes(id) - before;
    C.holds("a new one is small: " + made + " bytes", made < BYTES_OF_A_NEW_ONE);
    C.due("it is new", x.count(0), 0);
    C.holds("answers", sum != 0);
    C.end();
  }

  private static PassedOnAndBetter empty() {
    return new PassedOnAndBetter();
  }

  private static PassedOnAndBetter full() {
    PassedOnAndBetter x = new PassedOnAndBetter();
    for (int i = 0; i < 6; i++) {
      x.friend(i, 9 - i, 40 + i);
    }
    for (int i = 0; i < 6; i++) {
      x.nexts(i, (i + 1) % 6);
    }
    for (int i = 0; i < 4; i++) {
      x.gift(i, 10 * i, 30);
    }
    return x;
  }

  private static void all(PassedOnAndBetter x) {
    for (int a : ARGUMENTS) {
      ofOne(x, a);
      for (int b : ARGUMENTS) {
        ofTwo(x, a, b);
        for (int c : ARGUMENTS) {
          ofThree(x, a, b, c);
          sum += x.lost(a & 3, b & 3, 8, c, 0) + x.lost(1, 1, a, b, c) + x.lost(a, b, c, 3, 1);
        }
      }
    }
  }

  private static void ofOne(PassedOnAndBetter x, int a) {
    sum += x.feed(a) + x.circle() + x.feed('f') + x.circle() + x.months(a) + x.back();
    sum += x.passedOver(a) + x.circles() + x.sticks() + x.dearest(a) + x.tooLarge(a) + x.hasty(a);
    sum += x.mean(a) + x.bare(a) + x.year() + x.row(a) + x.row(5) + x.count(a);
    sum += x.image() + x.restore() + x.judge() + x.clear() + x.row(a);
  }

  private static void ofTwo(PassedOnAndBetter x, int a, int b) {
    sum += x.friendOf(a, b) + x.giftOf(a, b) + x.nexts(a, b) + x.doors(a, b) + x.hands(a, b);
    sum += x.then(a, b) + x.given(a, b) + x.comes(a, b) + x.chain(a, b) + x.way(a, b);
    sum += x.whatItWas(a, b) + x.whoHad(a, b) + x.added(a, b) + x.meet(a, b);
  }

  private static void ofThree(PassedOnAndBetter x, int a, int b, int c) {
    sum += x.friend(a, b, c) + x.gift(a, b, c) + x.behind(a, b, c) + x.bestStart(a, b, c);
    sum += x.bestNext(a, b, c) + x.doorsFor(a, b, c) + x.doorWanted(a, b, c) + x.two(a, b, c);
    sum += x.lots(a, b, c);
  }
}
