import java.util.Arrays;

/** Promises 1, 2, 4 to 12 and 42 to 44 at each of their edges. */
final class EdgesOfFirstPartTest {
  private static final Checks C = new Checks();
  private static final Twins T = new Twins(C);
  private static final Twins.Making NOBODY = Made::nobody;
  private static final Twins.Making ONE = Made::one;
  private static final Twins.Making SOME = Made::some;
  private static final Twins.Making FULL = Made::full;
  private static final int LEAST = Integer.MIN_VALUE;
  private static final int MOST = Integer.MAX_VALUE;

  private EdgesOfFirstPartTest() {}

  public static void main(String[] args) {
    promise01NobodyWhateverWasBefore();
    promise01EachByItself();
    promise02Feed();
    promise04EachKindAndFigure();
    promise04Edges();
    promise05Edges();
    promise05WorthAtMost();
    promise05SizeAtMost();
    promise06Friend();
    promise07Gift();
    promise06And07AtFirst();
    promise08Nexts();
    promise09Doors();
    promise10Hands();
    promise11Bounds();
    promise11WaitsToTheMonth();
    promise11DoorToTheSize();
    promise11TriedAgain();
    promise11OneAtLeastIsLeft();
    promise11KeptAndHandsAtMost();
    promise11EachGiftOnceAMonth();
    promise12EightAtMost();
    promise12WhatCounts();
    promise12AllAsItWas();
    promise12WhatLeavesNone();
    promise42And43();
    promise43WhatStays();
    promise44();
    C.end();
  }

  private static void promise01NobodyWhateverWasBefore() {
    Made.full().friendOf(9, 9);
    PassedOnAndBetter x = new PassedOnAndBetter();
    for (int what = 0; what <= 17; what++) {
      C.due("count(" + what + ")", x.count(what), what == 9 || what == 10 || what == 17 ? -9 : 0);
    }
    C.due("no letters", x.circle(), -1000);
    C.due("no numbers", x.clear(), 0);
    C.due("no numbers", x.judge(), -9);
    C.due("none TAKEN BACK", x.back(), -3);
    C.due("no IMAGE", x.restore(), -3);
    C.due("no FRIEND", x.friendOf(0, 0), -1);
    C.due("no GIFT", x.giftOf(0, 0), -1);
    C.due("nothing of a year", x.year(), 0);
  }

  /** What is done to one object is not seen of another. */
  private static void promise01EachByItself() {
    PassedOnAndBetter x = new PassedOnAndBetter();
    PassedOnAndBetter y = new PassedOnAndBetter();
    C.due("the one's", x.friend(5, 1, 40), 0);
    C.due("the other's", y.count(0), 0);
    C.due("the other's", y.friend(3, 0, 9), 0);
    C.due("the one's", x.friendOf(0, 0), 5);
    x.gift(0, 5, 8);
    x.months(7);
    x.feed('f');
    x.row(1);
    x.image();
    x.friendOf(1, 0);
    int[] whats = {1, 2, 3, 6, 7, 8, 11};
    for (int what : whats) {
      C.due("the other's count(" + what + ")", y.count(what), 0);
    }
    C.due("the other has no IMAGE", y.restore(), -3);
    C.due("the other adds as he does", y.gift(0, 5, 8), 0);
    C.due("the other's WORTH", y.months(3), 7);
    C.due("the one's WORTH", x.count(3), 6);
    C.due("the one's MONTH", x.count(2), 7);
  }

  private static void promise02Feed() {
    T.refused(NOBODY, -4, "feed", -1);
    T.refused(NOBODY, -4, "feed", LEAST);
    T.refused(NOBODY, -6, "feed", 256);
    T.refused(NOBODY, -6, "feed", MOST);
    T.refused(FULL, -6, "feed", 0);
    T.refused(FULL, -6, "feed", ';');
    T.refused(FULL, -6, "feed", 256);
    T.refused(FULL, -4, "feed", -1);
    PassedOnAndBetter x = new PassedOnAndBetter();
    C.due("the least", x.feed(0), 1);
    C.due("the greatest", x.feed(255), 2);
    for (int i = 3; i <= 95; i++) {
      x.feed(';');
    }
    C.due("the last", x.feed(';'), 96);
    C.due("one too many", x.feed(';'), -6);
    C.due("letters", x.count(6), 96);
    x.circle();
    C.due("from the first again", x.feed(';'), 1);
  }

  private static void promise04EachKindAndFigure() {
    int[][] waits = {
      {12, 11, 10, 9, 8, 7, 6, 5, 4, 3}, all(12), all(6), all(3), all(11), all(1)
    };
    int[][] adds = {
      {1, 2, 3, 4, 5, 6, 7, 8, 9, 10}, all(1), all(5), all(2), {1, 2, 3, 4, 5, 6, 7, 8, 9, 10},
      {0, 1, 1, 2, 2, 3, 3, 4, 4, 5}
    };
    int[][] swells = {
      {0, 0, 1, 1, 2, 2, 3, 3, 4, 4}, all(0), {0, 1, 2, 3, 4, 5, 6, 7, 8, 9}, all(0), all(4),
      {0, 0, 1, 1, 2, 2, 2, 2, 2, 2}
    };
    for (int kind = 0; kind <= 5; kind++) {
      for (int figure = 0; figure <= 9; figure++) {
        PassedOnAndBetter x = new PassedOnAndBetter();
        x.friend(kind, figure, 40);
        String who = "KIND " + kind + " of FIGURE " + figure;
        C.due(who, x.friendOf(0, 0), kind);
        C.due(who, x.friendOf(0, 1), figure);
        C.due(who + " WAITS", x.friendOf(0, 4), waits[kind][figure]);
        C.due(who + " ADDS", x.friendOf(0, 5), adds[kind][figure]);
        C.due(who + " SWELLS", x.friendOf(0, 6), swells[kind][figure]);
        doesIt(x, who, waits[kind][figure], adds[kind][figure],
            kind == 3 ? -3 : swells[kind][figure]);
      }
    }
  }

  /** What is told of one is what he does in the MONTHS. */
  private static void doesIt(PassedOnAndBetter x, String who, int waits, int adds, int swells) {
    x.gift(0, 50, 50);
    if (waits > 1) {
      x.months(waits - 1);
    }
    C.due(who + ": not yet", x.giftOf(0, 4), 0);
    C.due(who + ": not yet more", x.giftOf(0, 0), 50);
    x.months(1);
    C.due(who + ": BETTERED", x.giftOf(0, 4), 1);
    C.due(who + ": WORTH", x.giftOf(0, 0), 50 + adds);
    C.due(who + ": SIZE", x.giftOf(0, 1), 50 + swells);
  }

  private static int[] all(int v) {
    int[] row = new int[10];
    Arrays.fill(row, v);
    return row;
  }

  private static void promise04Edges() {
    T.refused(NOBODY, -1, "friendOf", 0, 0);
    T.refused(NOBODY, -1, "friendOf", 0, 8);
    T.refused(ONE, -1, "friendOf", 1, 0);
    T.refused(ONE, -1, "friendOf", -1, 0);
    T.refused(ONE, -2, "friendOf", 0, 8);
    T.refused(ONE, -2, "friendOf", 0, -1);
    T.refused(FULL, -1, "friendOf", 6, 0);
    T.refused(FULL, -1, "friendOf", 6, 8);
    T.refused(FULL, -1, "friendOf", -1, -1);
    T.refused(FULL, -1, "friendOf", LEAST, 0);
    T.refused(FULL, -1, "friendOf", MOST, 0);
    T.refused(FULL, -2, "friendOf", 5, 8);
    T.refused(FULL, -2, "friendOf", 5, LEAST);
    T.refused(FULL, -2, "friendOf", 5, MOST);
    T.asked(ONE, 0, "friendOf", 0, 0);
    T.asked(ONE, -9, "friendOf", 0, 3);
    T.asked(ONE, 0, "friendOf", 0, 7);
    T.asked(FULL, 5, "friendOf", 5, 0);
    PassedOnAndBetter x = Made.lineOfPoor(6, 0);
    C.due("NEXT", x.friendOf(4, 3), 5);
    x.nexts(4, 0);
    C.due("NEXT, the least", x.friendOf(4, 3), 0);
    for (int many = 0; many <= 4; many++) {
      C.due("HOLDS", x.friendOf(5, 7), many);
      x.gift(5, 1, 1);
    }
    C.due("HOLDS of another", x.friendOf(4, 7), 0);
  }

  private static void promise05Edges() {
    T.refused(NOBODY, -1, "giftOf", 0, 0);
    T.refused(ONE, -1, "giftOf", 0, 0);
    T.refused(ONE, -1, "giftOf", 0, 6);
    T.refused(SOME, -1, "giftOf", 2, 0);
    T.refused(SOME, -1, "giftOf", -1, 6);
    T.refused(SOME, -2, "giftOf", 1, 6);
    T.refused(SOME, -2, "giftOf", 1, -1);
    T.refused(FULL, -1, "giftOf", 4, 0);
    T.refused(FULL, -1, "giftOf", LEAST, 0);
    T.refused(FULL, -1, "giftOf", MOST, 6);
    T.refused(FULL, -2, "giftOf", 3, 6);
    T.refused(FULL, -2, "giftOf", 3, LEAST);
    T.refused(FULL, -2, "giftOf", 3, MOST);
    T.asked(SOME, 0, "giftOf", 0, 4);
    T.asked(SOME, 2, "giftOf", 0, 5);
    PassedOnAndBetter x = Made.lineOfPoor(6, 0);
    x.gift(5, 0, 1);
    x.gift(0, 99, 99);
    int[][] due = {{0, 1, 5, 0, 0, 0}, {99, 99, 0, 0, 0, 0}};
    for (int what = 0; what <= 5; what++) {
      C.due("the least of " + what, x.giftOf(0, what), due[0][what]);
      C.due("the greatest of " + what, x.giftOf(1, what), due[1][what]);
    }
  }

  /** POOR 9 (5 more) and HOLER (2 more) by turns, four MONTHS a round: 99 and 128 rounds are 995. */
  private static void promise05WorthAtMost() {
    PassedOnAndBetter x = Made.ring(9, 5, 3);
    x.gift(0, 99, 8);
    for (int i = 0; i < 8; i++) {
      x.months(60);
    }
    C.due("behind 480", x.giftOf(0, 0), 99 + 120 * 7);
    C.due("behind 512", x.months(32), 995);
    C.due("999 at most: 4 are added", x.added(0, 1), 4);
    C.due("999 at most: in mind", x.behind(0, 1, 1), 999);
    C.due("999 at most: in mind, long", x.behind(0, 60, 1), 999);
    C.due("999", x.months(1), 999);
    C.due("BETTERED all the same", x.giftOf(0, 2), 1);
    C.due("999, and no more", x.months(3), 999);
    C.due("it was given on", x.giftOf(0, 2), 0);
    C.due("nothing is added to 999", x.added(0, 60), 0);
    C.due("nothing more in a year", x.year(), 0);
    // 1 more each MONTH: 998 and one more.
    x = new PassedOnAndBetter();
    x.friend(5, 1, 40);
    x.friend(5, 1, 40);
    x.nexts(0, 1);
    x.nexts(1, 0);
    x.gift(0, 98, 8);
    for (int i = 0; i < 15; i++) {
      x.months(60);
    }
    C.due("98 and 900", x.count(3), 998);
    C.due("999", x.months(1), 999);
    C.due("999", x.months(1), 999);
  }

  /** A SISTER 9 (9 more) who is given it again and again: from 98 to 998 in 100 turns. */
  private static void promise05SizeAtMost() {
    PassedOnAndBetter x = new PassedOnAndBetter();
    x.friend(2, 9, 99);
    x.gift(0, 0, 98);
    for (int i = 0; i < 100; i++) {
      x.months(6);
      x.hands(0, 0);
    }
    C.due("SIZE", x.giftOf(0, 1), 998);
    C.due("all SIZE", x.count(4), 998);
    C.due("999 at most: in mind", x.behind(0, 6, 2), 999);
    x.months(6);
    C.due("999 at most", x.giftOf(0, 1), 999);
    x.hands(0, 0);
    x.months(6);
    C.due("999 at most", x.giftOf(0, 1), 999);
    C.due("too large for 99", x.tooLarge(0), 1);
    C.due("WORTH", x.giftOf(0, 0), 510);
  }

  private static void promise06Friend() {
    int[] kinds = {-1, 6, LEAST, MOST};
    for (int kind : kinds) {
      T.refused(NOBODY, -2, "friend", kind, 0, 1);
      T.refused(NOBODY, -2, "friend", kind, -1, 100);
      T.refused(NOBODY, -2, "friend", kind, 10, 0);
      T.refused(FULL, -2, "friend", kind, 0, 1);
    }
    T.refused(NOBODY, -4, "friend", 0, -1, 1);
    T.refused(NOBODY, -4, "friend", 5, 0, 0);
    T.refused(SOME, -4, "friend", 5, LEAST, 40);
    T.refused(SOME, -4, "friend", 5, 0, LEAST);
    T.refused(NOBODY, -4, "friend", 0, -1, 100);
    T.refused(NOBODY, -4, "friend", 0, 10, 0);
    T.refused(FULL, -4, "friend", 0, -1, 40);
    T.refused(FULL, -4, "friend", 0, 0, 0);
    T.refused(NOBODY, -6, "friend", 0, 10, 40);
    T.refused(NOBODY, -6, "friend", 0, 9, 100);
    T.refused(SOME, -6, "friend", 0, MOST, 40);
    T.refused(SOME, -6, "friend", 0, 9, MOST);
    T.refused(FULL, -6, "friend", 0, 0, 1);
    T.refused(FULL, -6, "friend", 5, 9, 99);
    T.refused(FULL, -6, "friend", 0, 10, 100);
    PassedOnAndBetter x = new PassedOnAndBetter();
    C.due("all the least", x.friend(0, 0, 1), 0);
    C.due("all the greatest", x.friend(5, 9, 99), 1);
    for (int i = 2; i <= 5; i++) {
      C.due("the number", x.friend(i - 1, i, 40), i);
      C.due("NEXT none at first", x.friendOf(i, 3), -9);
      C.due("FRIENDS", x.count(0), i + 1);
    }
    C.due("no room", x.friend(0, 0, 1), -6);
  }

  private static void promise07Gift() {
    T.refused(NOBODY, -1, "gift", 0, 0, 1);
    T.refused(NOBODY, -1, "gift", 0, -1, 100);
    T.refused(ONE, -1, "gift", 1, 0, 1);
    T.refused(ONE, -1, "gift", -1, 0, 1);
    T.refused(SOME, -1, "gift", 3, 100, 0);
    T.refused(FULL, -1, "gift", 6, 0, 1);
    T.refused(FULL, -1, "gift", 6, -1, 0);
    T.refused(FULL, -1, "gift", LEAST, 0, 1);
    T.refused(FULL, -1, "gift", MOST, 0, 1);
    T.refused(ONE, -4, "gift", 0, -1, 1);
    T.refused(ONE, -4, "gift", 0, 0, 0);
    T.refused(SOME, -4, "gift", 2, LEAST, 1);
    T.refused(SOME, -4, "gift", 2, 0, LEAST);
    T.refused(ONE, -4, "gift", 0, -1, 100);
    T.refused(ONE, -4, "gift", 0, 100, 0);
    T.refused(FULL, -4, "gift", 5, -1, 1);
    T.refused(FULL, -4, "gift", 5, 0, 0);
    T.refused(ONE, -6, "gift", 0, 100, 1);
    T.refused(ONE, -6, "gift", 0, 0, 100);
    T.refused(SOME, -6, "gift", 2, MOST, 1);
    T.refused(SOME, -6, "gift", 2, 0, MOST);
    T.refused(FULL, -6, "gift", 5, 0, 1);
    T.refused(FULL, -6, "gift", 0, 99, 99);
    PassedOnAndBetter x = Made.lineOfPoor(6, 0);
    C.due("the least of all", x.gift(0, 0, 1), 0);
    C.due("the greatest of all", x.gift(5, 99, 99), 1);
    C.due("the third", x.gift(5, 0, 1), 2);
    C.due("the fourth", x.gift(5, 0, 1), 3);
    C.due("no room", x.gift(5, 0, 1), -6);
    C.due("larger than his DOOR all the same", x.giftOf(1, 2), 5);
    C.due("GIFTS", x.count(1), 4);
  }

  /** A number that another one bore before an IMAGE of nobody was RESTORED. */
  private static void promise06And07AtFirst() {
    PassedOnAndBetter x = new PassedOnAndBetter();
    x.image();
    x.friend(5, 9, 40);
    x.friend(5, 9, 40);
    x.nexts(0, 1);
    x.nexts(1, 0);
    x.gift(0, 50, 39);
    x.months(9);
    C.due("BETTERED", x.giftOf(0, 4), 1);
    C.due("KEPT", x.giftOf(0, 3), 9);
    x.doors(1, 99);
    x.doors(0, 42);
    x.months(2);
    C.due("HANDS", x.giftOf(0, 5), 1);
    C.due("BETTERED", x.giftOf(0, 4), 1);
    C.due("MONTH 0", x.restore(), 0);
    x.friend(0, 0, 1);
    C.due("NEXT none at first", x.friendOf(0, 3), -9);
    C.due("KIND", x.friendOf(0, 0), 0);
    C.due("FIGURE", x.friendOf(0, 1), 0);
    C.due("DOOR", x.friendOf(0, 2), 1);
    x.gift(0, 1, 2);
    int[] first = {1, 2, 0, 0, 0, 0};
    for (int what = 0; what <= 5; what++) {
      C.due("a GIFT at first, " + what, x.giftOf(0, what), first[what]);
    }
  }

  private static void promise08Nexts() {
    int[][] notThere = {{3, 0}, {0, 3}, {-1, 0}, {0, -1}, {3, 3}, {MOST, 0}, {0, LEAST}};
    for (int[] a : notThere) {
      T.refused(NOBODY, -1, "nexts", a);
      T.refused(SOME, -1, "nexts", a);
    }
    T.refused(NOBODY, -1, "nexts", 0, 1);
    T.refused(NOBODY, -1, "nexts", 0, 0);
    T.refused(ONE, -1, "nexts", 0, 0);
    T.refused(ONE, -1, "nexts", 0, 1);
    T.refused(SOME, -1, "nexts", 2, 2);
    T.refused(FULL, -1, "nexts", 5, 5);
    T.refused(FULL, -1, "nexts", 5, 6);
    T.refused(FULL, -1, "nexts", 6, 5);
    PassedOnAndBetter x = Made.lineOfPoor(6, 0);
    C.due("the greatest to the least", x.nexts(5, 0), 1);
    C.due("not any more", x.nexts(5, 0), 0);
    C.due("none", x.friendOf(5, 3), -9);
    C.due("the least to the greatest, in another's place", x.nexts(0, 5), 1);
    C.due("NEXT", x.friendOf(0, 3), 5);
    C.due("the other's stays", x.friendOf(5, 3), -9);
  }

  private static void promise09Doors() {
    T.refused(NOBODY, -1, "doors", 0, 40);
    T.refused(ONE, -1, "doors", 1, 0);
    T.refused(ONE, -1, "doors", -1, 100);
    T.refused(FULL, -1, "doors", 6, 40);
    T.refused(FULL, -1, "doors", LEAST, 40);
    T.refused(FULL, -1, "doors", MOST, 40);
    T.refused(ONE, -4, "doors", 0, 0);
    T.refused(SOME, -4, "doors", 2, -1);
    T.refused(FULL, -4, "doors", 5, LEAST);
    T.refused(ONE, -6, "doors", 0, 100);
    T.refused(FULL, -6, "doors", 5, MOST);
    PassedOnAndBetter x = Made.lineOfPoor(6, 0);
    C.due("the least", x.doors(5, 1), 40);
    C.due("the greatest", x.doors(5, 99), 1);
    C.due("as it is", x.doors(5, 99), 99);
    C.due("DOOR", x.friendOf(5, 2), 99);
    C.due("of another", x.friendOf(4, 2), 40);
  }

  private static void promise10Hands() {
    T.refused(NOBODY, -1, "hands", 0, 0);
    T.refused(ONE, -1, "hands", 0, 0);
    T.refused(SOME, -1, "hands", 2, 0);
    T.refused(SOME, -1, "hands", 0, 3);
    T.refused(SOME, -1, "hands", -1, 0);
    T.refused(SOME, -1, "hands", 0, -1);
    T.refused(FULL, -1, "hands", 4, 5);
    T.refused(FULL, -1, "hands", 3, 6);
    T.refused(FULL, -1, "hands", LEAST, MOST);
    PassedOnAndBetter x = Made.lineOfPoor(6, 1);
    for (int i = 0; i < 4; i++) {
      x.gift(0, 5, 99);
    }
    x.months(3);
    C.due("stuck and KEPT", x.giftOf(3, 3), 3);
    C.due("to the greatest, through no door", x.hands(3, 5), 0);
    C.due("with", x.giftOf(3, 2), 5);
    C.due("KEPT 0", x.giftOf(3, 3), 0);
    C.due("not BETTERED", x.giftOf(3, 4), 0);
    C.due("HANDS stay", x.giftOf(3, 5), 0);
    C.due("to the same one", x.hands(2, 0), 0);
    C.due("KEPT 0", x.giftOf(2, 3), 0);
    C.due("not BETTERED", x.giftOf(2, 4), 0);
    C.due("another is left", x.giftOf(0, 3), 3);
    x.months(1);
    C.due("bettered by the other, too", x.giftOf(3, 0), 7);
    C.due("bettered again by the same", x.giftOf(2, 0), 7);
    C.due("not again", x.giftOf(0, 0), 6);
  }

  private static void promise11Bounds() {
    T.refused(NOBODY, -4, "months", 0);
    T.refused(SOME, -4, "months", -1);
    T.refused(SOME, -4, "months", LEAST);
    T.refused(FULL, -4, "months", 0);
    T.refused(NOBODY, -6, "months", 61);
    T.refused(SOME, -6, "months", MOST);
    T.refused(FULL, -6, "months", 1);
    T.refused(FULL, -6, "months", 60);
    PassedOnAndBetter x = new PassedOnAndBetter();
    C.due("the least", x.months(1), 0);
    C.due("the greatest", x.months(60), 0);
    for (int i = 0; i < 14; i++) {
      x.months(60);
    }
    x.months(39);
    C.due("MONTH", x.count(2), 940);
    C.due("above 999", x.months(60), -6);
    C.due("MONTH", x.count(2), 940);
    C.due("to 999", x.months(59), 0);
    C.due("MONTH", x.count(2), 999);
    C.due("above 999", x.months(1), -6);
    x.back();
    C.due("from 940 to 998", x.months(58), 0);
    C.due("above 999", x.months(2), -6);
    C.due("to 999", x.months(1), 0);
  }

  /** One of each KIND and of both FIGURES at the end: given to the MONTH, not one too soon. */
  private static void promise11WaitsToTheMonth() {
    int[][] oneWaits = {
      {0, 0, 12}, {0, 9, 3}, {1, 0, 12}, {1, 9, 12}, {2, 0, 6}, {2, 9, 6}, {3, 0, 3}, {3, 9, 3},
      {4, 0, 11}, {4, 9, 11}, {5, 0, 1}, {5, 9, 1}
    };
    for (int[] one : oneWaits) {
      PassedOnAndBetter x = new PassedOnAndBetter();
      x.friend(one[0], one[1], 40);
      x.friend(1, 0, 40);
      x.nexts(0, 1);
      x.gift(0, 5, 8);
      String who = "KIND " + one[0] + " FIGURE " + one[1];
      for (int month = 1; month < one[2]; month++) {
        x.months(1);
        C.due(who + ": with him yet", x.giftOf(0, 2), 0);
        C.due(who + ": KEPT", x.giftOf(0, 3), month);
        C.due(who + ": not BETTERED", x.giftOf(0, 4), 0);
        C.due(who + ": WORTH", x.giftOf(0, 0), 5);
      }
      x.months(1);
      C.due(who + ": given", x.giftOf(0, 2), 1);
      C.due(who + ": KEPT 0 then", x.giftOf(0, 3), 0);
      C.due(who + ": not BETTERED then", x.giftOf(0, 4), 0);
      C.due(who + ": HANDS 1 more", x.giftOf(0, 5), 1);
    }
  }

  private static void promise11DoorToTheSize() {
    for (int size = 38; size <= 42; size++) {
      PassedOnAndBetter x = Made.lineOfPoor(2, 1);
      x.gift(0, 5, size);
      x.months(1);
      C.due("SIZE " + size + " through a DOOR of 40", x.giftOf(0, 2), size <= 40 ? 1 : 0);
      // POOR 4 SWELLS it by 2 before.
      x = Made.lineOfPoor(2, 4);
      x.gift(0, 5, size);
      x.months(1);
      C.due("SIZE " + size + " and 2 through a DOOR of 40", x.giftOf(0, 2), size <= 38 ? 1 : 0);
    }
    // A HOLER takes 3 off before: 43 gets through 40.
    PassedOnAndBetter x = new PassedOnAndBetter();
    x.friend(3, 0, 40);
    x.friend(3, 0, 40);
    x.nexts(0, 1);
    x.gift(0, 5, 43);
    x.gift(0, 5, 44);
    x.months(3);
    C.due("43 less 3", x.giftOf(0, 2), 1);
    C.due("44 less 3", x.giftOf(1, 2), 0);
    x = Made.lineOfPoor(2, 0);
    x.doors(1, 99);
    x.gift(0, 5, 99);
    x.months(1);
    C.due("99 through 99", x.giftOf(0, 2), 1);
    x.doors(1, 1);
    x.gift(0, 5, 1);
    x.gift(0, 5, 2);
    x.months(1);
    C.due("1 through 1", x.giftOf(1, 2), 1);
    C.due("2 through 1", x.giftOf(2, 2), 0);
  }

  private static void promise11TriedAgain() {
    PassedOnAndBetter x = Made.lineOfPoor(2, 9);
    x.doors(1, 9);
    x.gift(0, 5, 8);
    x.months(4);
    C.due("it STICKS", x.giftOf(0, 2), 0);
    C.due("KEPT goes on", x.giftOf(0, 3), 4);
    C.due("WORTH once more", x.giftOf(0, 0), 10);
    C.due("SIZE once more", x.giftOf(0, 1), 10);
    C.due("HANDS", x.giftOf(0, 5), 0);
    x.doors(1, 10);
    x.months(1);
    C.due("tried again", x.giftOf(0, 2), 1);
    C.due("not bettered again", x.giftOf(0, 0), 10);
    C.due("KEPT 0", x.giftOf(0, 3), 0);
    C.due("not BETTERED", x.giftOf(0, 4), 0);
    x.months(5);
    C.due("no NEXT", x.giftOf(0, 2), 1);
    C.due("bettered by the other", x.giftOf(0, 0), 15);
    x.nexts(1, 0);
    x.months(1);
    C.due("a NEXT", x.giftOf(0, 2), 0);
    C.due("HANDS", x.giftOf(0, 5), 2);
  }

  private static void promise11OneAtLeastIsLeft() {
    int[][] sizes = {{1, 1}, {2, 1}, {3, 1}, {4, 1}, {5, 2}, {99, 96}};
    for (int[] size : sizes) {
      PassedOnAndBetter x = new PassedOnAndBetter();
      x.friend(3, 0, 40);
      x.gift(0, 5, size[0]);
      x.months(2);
      C.due("not yet less", x.giftOf(0, 1), size[0]);
      x.months(1);
      C.due(size[0] + ", 3 less, 1 at least", x.giftOf(0, 1), size[1]);
      x.months(3);
      C.due("once", x.giftOf(0, 1), size[1]);
    }
  }

  private static void promise11KeptAndHandsAtMost() {
    PassedOnAndBetter x = Made.one();
    x.gift(0, 5, 8);
    x.months(60);
    x.months(38);
    C.due("KEPT", x.giftOf(0, 3), 98);
    x.months(1);
    C.due("KEPT", x.giftOf(0, 3), 99);
    x.months(1);
    C.due("KEPT 99 at most", x.giftOf(0, 3), 99);
    C.due("it sticks all the same", x.sticks(), 1);
    x.friend(0, 0, 40);
    x.nexts(0, 1);
    x.months(1);
    C.due("given behind 99 all the same", x.giftOf(0, 2), 1);
    x = Made.lineOfPoor(2, 1);
    x.nexts(1, 0);
    x.gift(0, 5, 8);
    x.months(60);
    x.months(38);
    C.due("HANDS", x.giftOf(0, 5), 98);
    x.months(1);
    C.due("HANDS", x.giftOf(0, 5), 99);
    C.due("99 at most in mind", x.behind(0, 60, 3), 99);
    x.months(1);
    C.due("HANDS 99 at most", x.giftOf(0, 5), 99);
    C.due("given on all the same", x.giftOf(0, 0), 105);
    C.due("all HANDS", x.count(5), 99);
  }

  private static void promise11EachGiftOnceAMonth() {
    PassedOnAndBetter x = Made.lineOfPoor(6, 1);
    x.nexts(5, 0);
    for (int i = 0; i < 4; i++) {
      x.gift(i, 5, 8);
    }
    C.due("each 1 more", x.months(1), 24);
    for (int i = 0; i < 4; i++) {
      C.due("one on", x.giftOf(i, 2), i + 1);
      C.due("KEPT 0", x.giftOf(i, 3), 0);
    }
    C.due("each 6 more", x.months(6), 48);
    for (int i = 0; i < 4; i++) {
      C.due("and round", x.giftOf(i, 2), i + 1);
    }
  }

  private static void promise12EightAtMost() {
    T.refused(NOBODY, -3, "back");
    T.refused(ONE, -3, "back");
    for (int many = 1; many <= 10; many++) {
      PassedOnAndBetter x = Made.one();
      for (int i = 1; i <= many; i++) {
        x.doors(0, 40 + i);
      }
      int can = Math.min(8, many);
      C.due("can be TAKEN BACK of " + many, x.count(8), can);
      for (int left = can - 1; left >= 0; left--) {
        C.due("how many can still be", x.back(), left);
        C.due("the latest first", x.friendOf(0, 2), 40 + many - can + left);
      }
      C.due("none", x.back(), -3);
      C.due("it stays", x.friendOf(0, 2), 40 + many - can);
      C.due("none can be", x.count(8), 0);
    }
  }

  private static void promise12WhatCounts() {
    PassedOnAndBetter x = Made.lineOfPoor(2, 0);
    x.gift(0, 5, 8);
    C.due("none", x.count(8), 0);
    x.nexts(0, 1);
    C.due("nexts", x.count(8), 1);
    x.doors(0, 40);
    C.due("doors, all stays", x.count(8), 2);
    x.hands(0, 0);
    C.due("hands, all stays", x.count(8), 3);
    x.months(1);
    C.due("months", x.count(8), 4);
    x.nexts(0, 0);
    x.doors(0, 0);
    x.doors(2, 1);
    x.hands(1, 0);
    x.months(0);
    x.months(61);
    C.due("refused ones do not", x.count(8), 4);
    C.due("months", x.back(), 3);
    C.due("all stayed", x.back(), 2);
    C.due("all stayed", x.back(), 1);
    x.doors(1, 7);
    C.due("one more behind it", x.count(8), 2);
    x.back();
    x.back();
    C.due("DOOR", x.friendOf(1, 2), 40);
    C.due("NEXT as at first", x.friendOf(0, 3), 1);
    // Eight, three taken back, five more: the oldest two are no more.
    x = Made.one();
    for (int i = 1; i <= 8; i++) {
      x.doors(0, i);
    }
    x.back();
    x.back();
    x.back();
    for (int i = 11; i <= 15; i++) {
      x.doors(0, i);
    }
    int[] doors = {14, 13, 12, 11, 5, 4, 3, 2};
    for (int i = 0; i < 8; i++) {
      C.due("back", x.back(), 7 - i);
      C.due("DOOR", x.friendOf(0, 2), doors[i]);
    }
    C.due("none", x.back(), -3);
  }

  private static PassedOnAndBetter takenBack(String name, int... a) {
    PassedOnAndBetter x = Made.some();
    Twins.call(x, name, a);
    x.back();
    return x;
  }

  private static void promise12AllAsItWas() {
    int[][] nexts = {{0, 1}, {0, 2}, {1, 0}, {2, 0}};
    for (int[] a : nexts) {
      T.alike("nexts taken back", SOME, () -> takenBack("nexts", a));
    }
    int[][] doors = {{0, 1}, {1, 40}, {2, 99}};
    for (int[] a : doors) {
      T.alike("doors taken back", SOME, () -> takenBack("doors", a));
    }
    int[][] hands = {{0, 0}, {0, 1}, {1, 2}, {1, 0}};
    for (int[] a : hands) {
      T.alike("hands taken back", SOME, () -> takenBack("hands", a));
    }
    int[] months = {1, 2, 12, 60};
    for (int n : months) {
      T.alike("months taken back", SOME, () -> takenBack("months", n));
    }
  }

  private static void promise12WhatLeavesNone() {
    Object[][] leaves = {
      {4, "friend", 6, 0, 40}, {4, "friend", 0, -1, 40}, {4, "friend", 0, 10, 40},
      {0, "friend", 0, 0, 40}, {4, "gift", 3, 5, 8}, {4, "gift", 0, -1, 8}, {4, "gift", 0, 5, 100},
      {0, "gift", 0, 5, 8}, {0, "restore"}, {4, "image"}, {4, "circle"}, {4, "feed", 'f'},
      {4, "row", 5}, {4, "judge"}, {4, "clear"}, {4, "behind", 0, 60, 0}, {4, "lots", 20, 1, 0}
    };
    for (Object[] one : leaves) {
      int[] a = new int[one.length - 2];
      for (int i = 0; i < a.length; i++) {
        a[i] = one[i + 2] instanceof Character ? (Character) one[i + 2] : (Integer) one[i + 2];
      }
      PassedOnAndBetter x = Made.some();
      Twins.call(x, (String) one[1], a);
      C.due("TAKEN BACK behind " + one[1] + Arrays.toString(a), x.count(8), (Integer) one[0]);
    }
    PassedOnAndBetter x = Made.lineOfPoor(2, 0);
    x.doors(0, 1);
    x.restore();
    C.due("a restore that is refused leaves them", x.count(8), 2);
    x.image();
    x.restore();
    C.due("one that is not leaves none", x.back(), -3);
    x.doors(0, 2);
    C.due("then from the first", x.back(), 0);
    C.due("DOOR", x.friendOf(0, 2), 1);
  }

  private static void promise42And43() {
    T.refused(NOBODY, -3, "restore");
    T.refused(ONE, -3, "restore");
    PassedOnAndBetter x = new PassedOnAndBetter();
    C.due("of nobody", x.image(), 0);
    x.friend(0, 0, 40);
    C.due("MONTH 0", x.restore(), 0);
    C.due("nobody again", x.count(0), 0);
    x = Made.full();
    C.due("MONTH 999", x.image(), 999);
    C.due("MONTH 999", x.restore(), 999);
    C.due("the later IMAGE, again", x.restore(), 999);
    T.alike("an IMAGE at once restored",
        () -> {
          PassedOnAndBetter y = Made.some();
          y.friend(0, 0, 40);
          y.image();
          return y;
        },
        () -> {
          PassedOnAndBetter y = Made.some();
          y.friend(0, 0, 40);
          y.image();
          y.restore();
          return y;
        });
    x = Made.some();
    C.due("the IMAGE of before", x.restore(), 5);
    C.due("NEXT of 2", x.friendOf(2, 3), -9);
    C.due("DOOR of 2", x.friendOf(2, 2), 10);
    // One on, two MONTHS KEPT by 1, then a third: 8 by him, and to 2.
    C.due("gift 0", x.giftOf(0, 2), 2);
    C.due("KEPT", x.giftOf(0, 3), 1);
    C.due("HANDS", x.giftOf(0, 5), 2);
    C.due("WORTH", x.giftOf(0, 0), 8);
    C.due("SIZE", x.giftOf(0, 1), 5);
    C.due("gift 1", x.giftOf(1, 3), 5);
    x.months(1);
    C.due("later MONTHS leave it", x.restore(), 5);
    x.image();
    x.months(1);
    x.back();
    x.doors(0, 1);
    C.due("what is TAKEN BACK leaves it", x.restore(), 5);
    C.due("DOOR", x.friendOf(0, 2), 40);
  }

  private static void promise43WhatStays() {
    PassedOnAndBetter x = Made.some();
    x.friendOf(9, 0);
    x.friendOf(0, 9);
    x.back();
    x.row(-1);
    x.row(100);
    x.restore();
    C.due("letters stay", x.count(6), 3);
    C.due("the ROW stays", x.count(7), 2);
    C.due("-1 stays", x.count(11), 1);
    C.due("-2 stays", x.count(12), 1);
    C.due("-4 stays", x.count(14), 1);
    C.due("-6 stays", x.count(16), 1);
    // They say 2, 0; behind 5 MONTHS both GIFTS are with 2.
    C.due("the numbers are the same", x.judge(), 1);
    Made.tell(x, ";");
    C.due("the letters are the same", x.circle(), 1);
  }

  private static void promise44() {
    int[] others = {-1, 9, 10, 17, LEAST, MOST, -9, 18};
    for (int what : others) {
      T.asked(NOBODY, -9, "count", what);
      T.asked(FULL, -9, "count", what);
    }
    int[] full = {6, 4, 999};
    for (int what = 0; what <= 2; what++) {
      T.asked(NOBODY, 0, "count", what);
      T.asked(FULL, full[what], "count", what);
    }
    T.asked(FULL, 96, "count", 6);
    T.asked(FULL, 12, "count", 7);
    T.asked(FULL, 8, "count", 8);
    PassedOnAndBetter x = Made.lineOfPoor(2, 0);
    x.gift(0, 99, 99);
    x.gift(0, 0, 1);
    C.due("all WORTH", x.count(3), 99);
    C.due("all SIZE", x.count(4), 100);
    C.due("all HANDS", x.count(5), 0);
    x.months(1);
    C.due("all HANDS", x.count(5), 1);
    // Each REFUSAL under its number alone, -5 never.
    x.friendOf(2, 0);
    counted(x, 1, 0, 0, 0, 0);
    x.mean(2);
    counted(x, 1, 1, 0, 0, 0);
    x.restore();
    counted(x, 1, 1, 1, 0, 0);
    x.bare(-1);
    counted(x, 1, 1, 1, 1, 0);
    x.bare(61);
    counted(x, 1, 1, 1, 1, 1);
    x.lost(0, 2, 0, 2, 0);
    x.lost(0, 0, 0, 1, 0);
    counted(x, 2, 1, 1, 2, 1);
  }

  private static void counted(PassedOnAndBetter x, int a, int b, int c, int d, int f) {
    C.due("-1", x.count(11), a);
    C.due("-2", x.count(12), b);
    C.due("-3", x.count(13), c);
    C.due("-4", x.count(14), d);
    C.due("-5", x.count(15), 0);
    C.due("-6", x.count(16), f);
  }
}
