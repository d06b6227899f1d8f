import java.util.Arrays;

/** Promises 31 to 41 at each of their edges. */
final class EdgesOfLookedAtTest {
  private static final Checks C = new Checks();
  private static final Twins T = new Twins(C);
  private static final Twins.Making NOBODY = Made::nobody;
  private static final Twins.Making ONE = Made::one;
  private static final Twins.Making SOME = Made::some;
  private static final Twins.Making FULL = Made::full;
  private static final Twins.Making[] ALL = {NOBODY, ONE, SOME, FULL};
  private static final int LEAST = Integer.MIN_VALUE;
  private static final int MOST = Integer.MAX_VALUE;

  private EdgesOfLookedAtTest() {}

  public static void main(String[] args) {
    promise31Dearest();
    promise32TooLarge();
    promise33Hasty();
    promise34Mean();
    promise35Meet();
    promise35To60();
    promise36Bare();
    promise37Year();
    promise38Row();
    promise39Judge();
    promise40Clear();
    promise41Refused();
    promise41Bounds();
    promise41DrawsThatWrap();
    C.end();
  }

  /** The refusals of a what or a part alone. */
  private static void whats(String name) {
    for (Twins.Making making : ALL) {
      for (int what : new int[] {-1, 2, LEAST, MOST}) {
        T.refused(making, -2, name, what);
      }
    }
  }

  private static void promise31Dearest() {
    whats("dearest");
    for (int what = 0; what <= 1; what++) {
      T.asked(NOBODY, -9, "dearest", what);
      T.asked(ONE, -9, "dearest", what);
      T.asked(SOME, 1, "dearest", what);
    }
    PassedOnAndBetter x = Made.one();
    x.gift(0, 0, 1);
    C.due("the least WORTH alone", x.dearest(0), 0);
    C.due("the least SIZE alone", x.dearest(1), 0);
    x.gift(0, 0, 1);
    C.due("of two the least", x.dearest(0), 0);
    C.due("of two the least", x.dearest(1), 0);
    x.gift(0, 98, 98);
    x.gift(0, 99, 99);
    C.due("the fourth", x.dearest(0), 3);
    C.due("the fourth", x.dearest(1), 3);
    x = Made.one();
    x.gift(0, 1, 99);
    x.gift(0, 99, 1);
    x.gift(0, 99, 99);
    C.due("DEAREST, of several the least", x.dearest(0), 1);
    C.due("LARGEST, of several the least", x.dearest(1), 0);
  }

  private static void promise32TooLarge() {
    T.refused(NOBODY, -1, "tooLarge", 0);
    T.refused(ONE, -1, "tooLarge", 0);
    for (int no : new int[] {-1, 2, LEAST, MOST}) {
      T.refused(SOME, -1, "tooLarge", no);
    }
    T.refused(FULL, -1, "tooLarge", 4);
    T.refused(FULL, -1, "tooLarge", -1);
    T.asked(SOME, 0, "tooLarge", 0);
    PassedOnAndBetter x = new PassedOnAndBetter();
    int[] doors = {1, 2, 8, 50, 98, 99};
    for (int door : doors) {
      x.friend(0, 0, door);
    }
    int[][] sizes = {{1, 0}, {2, 1}, {98, 4}, {99, 5}};
    for (int i = 0; i < 4; i++) {
      x.gift(0, 5, sizes[i][0]);
      C.due("SIZE " + sizes[i][0], x.tooLarge(i), sizes[i][1]);
    }
    x.doors(5, 98);
    C.due("for all", x.tooLarge(3), 6);
    C.due("for all but as large ones", x.tooLarge(2), 4);
  }

  private static void promise33Hasty() {
    whats("hasty");
    for (int what = 0; what <= 1; what++) {
      T.asked(NOBODY, -9, "hasty", what);
      T.asked(ONE, 0, "hasty", what);
    }
    T.asked(SOME, 0, "hasty", 0);
    T.asked(SOME, 2, "hasty", 1);
    PassedOnAndBetter x = new PassedOnAndBetter();
    x.friend(1, 0, 99);
    C.due("who WAITS 12", x.hasty(0), 0);
    C.due("whose DOOR is 99", x.hasty(1), 0);
    x.friend(0, 0, 99);
    C.due("of two the least", x.hasty(0), 0);
    C.due("of two the least", x.hasty(1), 0);
    x.friend(4, 0, 98);
    C.due("one WAITS less", x.hasty(0), 2);
    C.due("one DOOR less", x.hasty(1), 2);
    x.friend(0, 1, 98);
    C.due("as little, of several the least", x.hasty(0), 2);
    C.due("as narrow, of several the least", x.hasty(1), 2);
    x.friend(0, 0, 1);
    x.friend(5, 0, 1);
    C.due("the sixth", x.hasty(0), 5);
    C.due("the fifth", x.hasty(1), 4);
  }

  private static void mean(PassedOnAndBetter x, String label, long above, long below) {
    C.due(label + ": above", x.mean(0), above);
    C.due(label + ": below", x.mean(1), below);
  }

  private static void promise34Mean() {
    whats("mean");
    C.due("as a long", new PassedOnAndBetter().mean(2), 4000000000000000002L);
    T.asked(NOBODY, 0, "mean", 0);
    T.asked(NOBODY, 1, "mean", 1);
    T.asked(ONE, 0, "mean", 0);
    T.asked(ONE, 1, "mean", 1);
    T.asked(SOME, 22, "mean", 0);
    T.asked(SOME, 1, "mean", 1);
    int[][] worths = {
      {0, 1, 0}, {99, 1, 99}, {0, 1, 0, 0, 0, 0}, {1, 2, 0, 1}, {1, 4, 0, 0, 0, 1}, {1, 3, 0, 0, 1},
      {99, 1, 99, 99, 99, 99}, {395, 4, 99, 99, 99, 98}, {1, 2, 0, 0, 1, 1}, {1, 1, 1, 1, 1},
      {3, 2, 0, 3, 0, 3}
    };
    for (int[] w : worths) {
      PassedOnAndBetter x = Made.one();
      for (int i = 2; i < w.length; i++) {
        x.gift(0, w[i], 8);
      }
      mean(x, Arrays.toString(w), w[0], w[1]);
    }
  }

  private static void promise35Meet() {
    int[][] none = {{2, 0}, {0, 2}, {-1, 0}, {0, -1}, {2, 2}, {MOST, 0}, {0, LEAST}};
    for (int[] a : none) {
      T.refused(NOBODY, -1, "meet", a);
      T.refused(ONE, -1, "meet", a);
      T.refused(SOME, -1, "meet", a);
    }
    T.refused(ONE, -1, "meet", 0, 0);
    T.refused(SOME, -1, "meet", 0, 0);
    T.refused(SOME, -1, "meet", 1, 1);
    T.refused(FULL, -1, "meet", 3, 3);
    T.refused(FULL, -1, "meet", 3, 4);
    T.refused(FULL, -1, "meet", 4, 3);
    // The one from 2 behind 3 to 0, behind 4 to 1, behind 7 to 2; the other from 1 behind 3 to 2.
    T.asked(SOME, 7, "meet", 0, 1);
    T.asked(SOME, 7, "meet", 1, 0);
    PassedOnAndBetter x = Made.lineOfPoor(6, 0);
    for (int i = 0; i < 4; i++) {
      x.gift(i == 3 ? 5 : i, 5, 8);
    }
    C.due("behind 5", x.meet(0, 3), 5);
    C.due("behind 3", x.meet(2, 3), 3);
    x.hands(3, 0);
    C.due("now", x.meet(0, 3), 0);
    C.due("now", x.meet(3, 0), 0);
    x.hands(3, 1);
    x.doors(2, 7);
    C.due("both stick with others", x.meet(2, 3), -9);
  }

  /**
   * Two SISTERS, of FIGURES 9 and 0, who give two GIFTS to and fro each 6 MONTHS and so never have
   * both, till the second is too large for the DOOR of the second SISTER: it grows by 9 behind 6,
   * 18, 30, 42, 54 (and 66); then the other one comes to it.
   */
  private static PassedOnAndBetter meetBehind(int turns) {
    PassedOnAndBetter x = new PassedOnAndBetter();
    x.friend(2, 9, 99);
    x.friend(2, 0, 8 + 9 * turns);
    x.nexts(0, 1);
    x.nexts(1, 0);
    x.gift(1, 5, 1);
    x.gift(0, 5, 8);
    return x;
  }

  private static void promise35To60() {
    C.due("behind 6", meetBehind(0).meet(0, 1), 6);
    C.due("behind 18", meetBehind(1).meet(0, 1), 18);
    C.due("behind 54", meetBehind(4).meet(0, 1), 54);
    C.due("behind 66", meetBehind(5).meet(0, 1), -9);
    PassedOnAndBetter x = meetBehind(5);
    x.months(5);
    C.due("behind 61", x.meet(0, 1), -9);
    x.months(1);
    C.due("behind 60", x.meet(0, 1), 60);
    C.due("behind 60, the other way", x.meet(1, 0), 60);
  }

  private static void promise36Bare() {
    for (Twins.Making making : ALL) {
      T.refused(making, -4, "bare", -1);
      T.refused(making, -4, "bare", LEAST);
      T.refused(making, -6, "bare", 61);
      T.refused(making, -6, "bare", MOST);
    }
    T.asked(NOBODY, 0, "bare", 0);
    T.asked(NOBODY, 0, "bare", 60);
    T.asked(ONE, 1, "bare", 0);
    T.asked(ONE, 1, "bare", 60);
    T.asked(SOME, 1, "bare", 0);
    T.asked(SOME, 1, "bare", 2);
    T.asked(SOME, 0, "bare", 3);
    PassedOnAndBetter x = Made.lineOfPoor(6, 0);
    C.due("all six", x.bare(0), 63);
    C.due("all six", x.bare(60), 63);
    x.gift(0, 5, 8);
    for (int n = 0; n <= 6; n++) {
      C.due("behind 0 .. " + n, x.bare(n), n < 5 ? 63 & -(2 << n) : 0);
    }
    x = new PassedOnAndBetter();
    for (int i = 0; i < 6; i++) {
      x.friend(1, 0, 40);
    }
    for (int i = 0; i < 5; i++) {
      x.nexts(i, i + 1);
    }
    x.gift(0, 5, 8);
    C.due("behind 0 .. 59", x.bare(59), 32);
    C.due("behind 0 .. 60", x.bare(60), 0);
  }

  private static void promise37Year() {
    T.asked(NOBODY, 0, "year");
    T.asked(ONE, 0, "year");
    // The one is 5, 1, 2 more behind 3, 4, 7 (5 behind 13), the other 2, 5, 1 behind 3, 9, 10.
    T.asked(SOME, 16, "year");
    PassedOnAndBetter x = Made.ring(0, 1);
    x.gift(0, 5, 8);
    C.due("behind 12", x.year(), 1);
    x.months(12);
    C.due("no more then", x.year(), 0);
    x = Made.ring(1, 5, 5);
    x.gift(0, 5, 8);
    C.due("12 MONTHS", x.year(), 12);
    x.gift(1, 5, 8);
    x.gift(1, 5, 8);
    x.gift(0, 5, 8);
    C.due("all GIFTS", x.year(), 48);
  }

  private static void promise38Row() {
    for (Twins.Making making : new Twins.Making[] {NOBODY, SOME, FULL}) {
      T.refused(making, -4, "row", -1);
      T.refused(making, -4, "row", LEAST);
      T.refused(making, -6, "row", 100);
      T.refused(making, -6, "row", MOST);
    }
    T.refused(FULL, -6, "row", 0);
    T.refused(FULL, -6, "row", 99);
    PassedOnAndBetter x = new PassedOnAndBetter();
    C.due("the least", x.row(0), 1);
    C.due("the greatest", x.row(99), 2);
    for (int i = 3; i <= 12; i++) {
      C.due("how many", x.row(1), i);
      C.due("in the ROW", x.count(7), i);
    }
    C.due("one too many", x.row(1), -6);
    C.due("in the ROW", x.count(7), 12);
  }

  private static void judged(PassedOnAndBetter x, int due, int... numbers) {
    Checks.rows(x, numbers);
    C.due("judge of " + Arrays.toString(numbers), x.judge(), due);
    C.due("the ROW has none then", x.count(7), 0);
    C.due("none, judged", x.judge(), -9);
  }

  private static void promise39Judge() {
    judged(Made.nobody(), -9);
    judged(Made.nobody(), 0, 0);
    judged(Made.one(), 0, 0);
    PassedOnAndBetter x = Made.lineOfPoor(6, 0);
    x.gift(0, 5, 8);
    x.gift(5, 5, 8);
    x.gift(5, 5, 8);
    judged(x, -9);
    judged(x, -9, 0);
    judged(x, -9, 0, 5);
    judged(x, -9, 0, 5, 5);
    judged(x, 3, 0, 5, 5, 0);
    judged(x, 0, 5);
    judged(x, 0, 99, 5, 5);
    judged(x, 1, 0, 0, 5);
    judged(x, 2, 0, 5, 6);
    judged(x, 2, 0, 5, 99, 1);
    x.gift(0, 5, 8);
    judged(x, -9, 0, 5, 5, 0);
    judged(x, 3, 0, 5, 5, 5);
    judged(x, 4, 0, 5, 5, 0, 0);
    judged(x, 4, 0, 5, 5, 0, 0, 0, 0, 0, 0, 0, 0, 0);
    C.due("nothing was refused", x.count(16) + x.count(14) + x.count(11), 0);
  }

  private static void promise40Clear() {
    C.due("none", Made.nobody().clear(), 0);
    C.due("some", Made.some().clear(), 2);
    PassedOnAndBetter x = Made.full();
    C.due("12", x.clear(), 12);
    C.due("none then", x.clear(), 0);
    C.due("in the ROW", x.count(7), 0);
    C.due("from the first again", x.row(5), 1);
    C.due("letters stay", x.count(6), 96);
    C.due("TAKEN BACK stays", x.count(8), 8);
  }

  private static void promise41Refused() {
    for (Twins.Making making : ALL) {
      T.refused(making, -4, "lots", 0, 5, 0);
      T.refused(making, -4, "lots", LEAST, 5, 1);
      T.refused(making, -4, "lots", 0, 5, 2);
      T.refused(making, -6, "lots", 21, 5, 0);
      T.refused(making, -6, "lots", MOST, 5, 1);
      T.refused(making, -6, "lots", 21, 5, -1);
      T.refused(making, -2, "lots", 1, 5, -1);
      T.refused(making, -2, "lots", 20, 5, 2);
      T.refused(making, -2, "lots", 20, LEAST, MOST);
      T.refused(making, -2, "lots", 1, MOST, LEAST);
    }
  }

  private static void promise41Bounds() {
    for (int z : new int[] {LEAST, -1, 0, 1, MOST}) {
      for (int n : new int[] {1, 20}) {
        T.asked(NOBODY, 0, "lots", n, z, 0);
        T.asked(NOBODY, 0, "lots", n, z, 1);
        T.asked(ONE, 0, "lots", n, z, 0);
      }
    }
    // One alone always draws himself: none.
    PassedOnAndBetter x = Made.one();
    x.gift(0, 5, 8);
    C.due("1 circle", x.lots(1, 7, 0), 10);
    C.due("20 circles", x.lots(20, 7, 0), 200);
    C.due("none given on", x.lots(20, 7, 1), 0);
  }

  /** Of two POOR, one with a GIFT: none is his NEXT, or to the other and no more, or to and fro. */
  private static void promise41DrawsThatWrap() {
    for (int z : new int[] {LEAST, LEAST + 1, -65536, -2, -1, 0, 1, 2, 4, 12345, 65536, MOST}) {
      PassedOnAndBetter x = Made.lineOfPoor(2, 1);
      x.gift(0, 5, 8);
      long seed = z;
      int worth = 0;
      int hands = 0;
      for (int n = 1; n <= 20; n++) {
        seed = wrapped(seed * 1103515245L + 12345);
        boolean gives = drawn(seed);
        seed = wrapped(seed * 1103515245L + 12345);
        boolean givesBack = gives && !drawn(seed);
        worth += givesBack ? 24 : gives ? 2 : 1;
        hands += givesBack ? 24 : gives ? 1 : 0;
        C.due("WORTH of " + n + " from " + z, x.lots(n, z, 0), worth);
        C.due("HANDS of " + n + " from " + z, x.lots(n, z, 1), hands);
      }
      C.due("NEXT stays", x.friendOf(0, 3), 1);
      C.due("NEXT stays", x.friendOf(1, 3), -9);
    }
  }

  /** As 32 bits with a sign. */
  private static long wrapped(long v) {
    long bits = Math.floorMod(v, 1L << 32);
    return bits >= 1L << 31 ? bits - (1L << 32) : bits;
  }

  /** A DRAW below 2. */
  private static boolean drawn(long seed) {
    return Math.floorMod(seed, 1L << 31) / 65536 % 2 == 1;
  }
}
