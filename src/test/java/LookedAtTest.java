/** Promises 31 to 41: what is looked at now, the ROW, a year and lots. */
final class LookedAtTest {
  private static final Checks C = new Checks();
  private static final long R = 4000000000000000000L;

  private LookedAtTest() {}

  public static void main(String[] args) {
    promise31Dearest();
    promise32TooLarge();
    promise33Hasty();
    promise34Mean();
    promise35Meet();
    promise36Bare();
    promise37Year();
    promise38And40Row();
    promise39Judge();
    promise41Lots();
    promise41Refused();
    C.end();
  }

  private static void promise31Dearest() {
    PassedOnAndBetter x = new PassedOnAndBetter();
    C.due("DEAREST of none", x.dearest(0), -9);
    C.due("LARGEST of none", x.dearest(1), -9);
    x.friend(0, 0, 40);
    x.gift(0, 0, 3);
    C.due("worth nothing", x.dearest(0), 0);
    x.gift(0, 7, 8);
    x.gift(0, 7, 9);
    x.gift(0, 1, 9);
    C.due("DEAREST, of several the least", x.dearest(0), 1);
    C.due("LARGEST, of several the least", x.dearest(1), 2);
    C.due("no such what", x.dearest(2), -2);
    C.due("no such what", x.dearest(-1), -2);
    C.due("no such what, of none", new PassedOnAndBetter().dearest(2), -2);
  }

  private static void promise32TooLarge() {
    PassedOnAndBetter x = new PassedOnAndBetter();
    C.due("no gift", x.tooLarge(0), -1);
    x.friend(0, 0, 7);
    x.friend(0, 0, 8);
    x.friend(0, 0, 9);
    x.gift(0, 5, 8);
    x.gift(2, 5, 99);
    x.gift(2, 5, 1);
    C.due("for one, who has it", x.tooLarge(0), 1);
    C.due("for all", x.tooLarge(1), 3);
    C.due("for none", x.tooLarge(2), 0);
    C.due("no gift", x.tooLarge(3), -1);
    C.due("no gift", x.tooLarge(-1), -1);
  }

  private static void promise33Hasty() {
    PassedOnAndBetter x = new PassedOnAndBetter();
    C.due("HASTY of none", x.hasty(0), -9);
    C.due("NARROW of none", x.hasty(1), -9);
    x.friend(1, 0, 99);
    C.due("he alone", x.hasty(0), 0);
    C.due("he alone", x.hasty(1), 0);
    x.friend(0, 9, 12);
    x.friend(3, 0, 40);
    x.friend(2, 0, 12);
    C.due("HASTY, of several the least", x.hasty(0), 1);
    C.due("NARROW, of several the least", x.hasty(1), 1);
    x.friend(5, 0, 11);
    C.due("HASTY", x.hasty(0), 4);
    C.due("NARROW", x.hasty(1), 4);
    x.doors(4, 50);
    C.due("HASTY, whose DOOR is wide", x.hasty(0), 4);
    C.due("NARROW, who WAITS", x.hasty(1), 1);
    C.due("no such what", x.hasty(2), -2);
    C.due("no such what", x.hasty(-1), -2);
  }

  private static void mean(PassedOnAndBetter x, long above, long below) {
    C.due("above the line", x.mean(0), above);
    C.due("below the line", x.mean(1), below);
  }

  private static void promise34Mean() {
    PassedOnAndBetter x = new PassedOnAndBetter();
    mean(x, 0, 1);
    x.friend(0, 0, 40);
    x.gift(0, 0, 5);
    mean(x, 0, 1);
    x.gift(0, 5, 5);
    mean(x, 5, 2);
    x.gift(0, 4, 5);
    mean(x, 3, 1);
    x.gift(0, 1, 5);
    mean(x, 5, 2);
    C.due("no such part", x.mean(2), R + 2);
    C.due("no such part", x.mean(-1), R + 2);
    C.due("-2", x.count(12), 2);
  }

  private static void promise35Meet() {
    PassedOnAndBetter x = new PassedOnAndBetter();
    x.friend(5, 1, 40);
    x.friend(3, 0, 40);
    x.friend(2, 0, 40);
    x.nexts(0, 1);
    x.nexts(1, 2);
    x.nexts(2, 0);
    x.gift(0, 5, 8);
    x.gift(1, 0, 8);
    x.gift(0, 0, 8);
    x.gift(2, 0, 8);
    C.due("both with 0", x.meet(0, 2), 0);
    C.due("both with 1", x.meet(0, 1), 1);
    C.due("both with 1", x.meet(1, 0), 1);
    C.due("both with 2", x.meet(3, 1), 3);
    C.due("both with 2", x.meet(0, 3), 4);
    x.nexts(0, 1);
    x.nexts(1, 2);
    x.nexts(2, 0);
    C.due("never", x.meet(0, 1), -9);
    C.due("one twice", x.meet(0, 0), -1);
    C.due("no gift", x.meet(4, 0), -1);
    C.due("no gift", x.meet(0, 4), -1);
    C.due("no gift", x.meet(-1, 0), -1);
    x = new PassedOnAndBetter();
    for (int i = 0; i < 6; i++) {
      x.friend(1, 0, 40);
      if (i > 0) {
        x.nexts(i - 1, i);
      }
    }
    x.gift(0, 0, 1);
    x.gift(5, 0, 1);
    C.due("behind 60", x.meet(0, 1), 60);
    x.nexts(4, 5);
    C.due("never", x.meet(0, 1), -9);
  }

  private static void promise36Bare() {
    PassedOnAndBetter x = new PassedOnAndBetter();
    C.due("of none", x.bare(60), 0);
    x.friend(5, 1, 40);
    x.friend(3, 0, 40);
    x.friend(2, 0, 40);
    x.friend(2, 0, 40);
    C.due("no gifts", x.bare(60), 15);
    x.nexts(0, 1);
    x.nexts(1, 2);
    x.gift(0, 5, 8);
    C.due("now", x.bare(0), 14);
    C.due("1", x.bare(1), 12);
    C.due("3", x.bare(3), 12);
    C.due("4", x.bare(4), 8);
    C.due("60", x.bare(60), 8);
    x.gift(3, 5, 8);
    C.due("with another gift", x.bare(1), 4);
    C.due("below", x.bare(-1), -4);
    C.due("above", x.bare(61), -6);
  }

  private static void promise37Year() {
    PassedOnAndBetter x = new PassedOnAndBetter();
    C.due("of none", x.year(), 0);
    x.friend(0, 0, 40);
    x.friend(5, 1, 40);
    x.gift(0, 5, 8);
    C.due("the twelfth month counts", x.year(), 1);
    x.gift(1, 5, 8);
    C.due("both", x.year(), 2);
    x.nexts(1, 0);
    x.nexts(0, 1);
    C.due("POOR to FRIEND, FRIEND to POOR", x.year(), 2);
    x.months(1);
    C.due("a month later", x.year(), 1 + 1 + 1);
    C.due("nothing changes", x.count(2), 1);
  }

  private static void promise38And40Row() {
    PassedOnAndBetter x = new PassedOnAndBetter();
    C.due("clear()", x.clear(), 0);
    C.due("row(0)", x.row(0), 1);
    C.due("row(99)", x.row(99), 2);
    C.due("row(-1)", x.row(-1), -4);
    C.due("row(100)", x.row(100), -6);
    for (int i = 3; i <= 12; i++) {
      C.due("row", x.row(5), i);
    }
    C.due("the thirteenth", x.row(5), -6);
    C.due("the thirteenth, below", x.row(-1), -4);
    C.due("clear()", x.clear(), 12);
    C.due("clear()", x.clear(), 0);
    C.due("row", x.row(5), 1);
  }

  private static void promise39Judge() {
    PassedOnAndBetter x = new PassedOnAndBetter();
    C.due("of none", x.judge(), -9);
    x.row(0);
    C.due("no such GIFT", x.judge(), 0);
    C.due("the ROW has none", x.count(7), 0);
    x.friend(0, 0, 40);
    x.friend(0, 0, 40);
    x.gift(0, 5, 8);
    x.gift(1, 5, 8);
    x.gift(1, 5, 8);
    Checks.rows(x, 0, 1, 1);
    C.due("all so", x.judge(), -9);
    C.due("the ROW has none", x.count(7), 0);
    Checks.rows(x, 0, 1);
    C.due("those told are so", x.judge(), -9);
    Checks.rows(x, 0, 1, 0);
    C.due("one not so", x.judge(), 2);
    Checks.rows(x, 1, 0, 0);
    C.due("the first not so", x.judge(), 0);
    Checks.rows(x, 0, 1, 1, 0);
    C.due("no such GIFT", x.judge(), 3);
    Checks.rows(x, 0, 1, 1, 0, 0, 0);
    C.due("no such GIFT", x.judge(), 3);
    x.clear();
    C.due("of none", x.judge(), -9);
  }

  private static PassedOnAndBetter pair() {
    PassedOnAndBetter x = new PassedOnAndBetter();
    x.friend(5, 1, 40);
    x.friend(5, 1, 40);
    x.gift(0, 5, 8);
    return x;
  }

  private static void lots(PassedOnAndBetter x, int n, int z, int worth, int hands) {
    C.due("WORTH by lot " + n + " " + z, x.lots(n, z, 0), worth);
    C.due("HANDS by lot " + n + " " + z, x.lots(n, z, 1), hands);
  }

  private static void promise41Lots() {
    PassedOnAndBetter x = pair();
    // Below 2 seed 0 draws 0 0, 0 1, 0 1, 1 1: three times none from 0, then 1 from 0 alone.
    lots(x, 1, 0, 1, 0);
    lots(x, 2, 0, 2, 0);
    lots(x, 4, 0, 5, 1);
    // Seed 4 draws 1 0 (a ring of two: 24 and 24), 1 1, 1 0, 0 1.
    lots(x, 1, 4, 24, 24);
    lots(x, 2, 4, 26, 25);
    lots(x, 3, 4, 50, 49);
    lots(x, 4, 4, 51, 49);
    // Seed -1 draws 1 1, 0 0, 1 0, 0 1; without its sign's bit as 2147483647.
    lots(x, 4, -1, 28, 25);
    lots(x, 4, Integer.MAX_VALUE, 28, 25);
    lots(x, 4, Integer.MIN_VALUE, 5, 1);
    // Each from now: the HANDS of now are not counted, and NEXTS are drawn anew.
    x.nexts(0, 1);
    x.nexts(1, 0);
    x.months(6);
    lots(x, 4, 4, 51, 49);
    x = new PassedOnAndBetter();
    x.friend(5, 1, 40);
    x.friend(5, 1, 40);
    x.friend(5, 1, 40);
    x.gift(0, 5, 8);
    // Below 3 seed 5 draws 1 0 2: a ring of 0 and 1.
    lots(x, 1, 5, 24, 24);
    // Seed 1 draws 2 1 0, then 1 1 2.
    lots(x, 1, 1, 24, 24);
    lots(x, 2, 1, 26, 25);
    // Seed 7 draws 1 2 2: from 0 by 1 to 2.
    lots(x, 1, 7, 3, 2);
  }

  private static void promise41Refused() {
    PassedOnAndBetter x = new PassedOnAndBetter();
    lots(x, 20, 7, 0, 0);
    C.due("none", x.lots(0, 7, 2), -4);
    C.due("above", x.lots(21, 7, 2), -6);
    C.due("no such what", x.lots(20, 7, 2), -2);
    C.due("no such what", x.lots(1, 7, -1), -2);
    x.friend(0, 0, 40);
    lots(x, 20, 7, 0, 0);
    x.gift(0, 5, 8);
    lots(x, 20, 7, 20, 0);
    C.due("nothing changes", x.count(3), 5);
  }
}
