import java.util.Arrays;

/** Promises 13 to 30 at each of their edges. */
final class EdgesInMindTest {
  private static final Checks C = new Checks();
  private static final Twins T = new Twins(C);
  private static final Twins.Making NOBODY = Made::nobody;
  private static final Twins.Making ONE = Made::one;
  private static final Twins.Making SOME = Made::some;
  private static final Twins.Making FULL = Made::full;
  private static final int LEAST = Integer.MIN_VALUE;
  private static final int MOST = Integer.MAX_VALUE;

  private EdgesInMindTest() {}

  public static void main(String[] args) {
    monthMayPass999();
    promise13Behind();
    promise14Then();
    promise15Given();
    promise15RoundTo60();
    promise16Comes();
    promise17Sticks();
    promise18BestStart();
    promise19BestNext();
    promise20DoorsFor();
    promise21DoorWanted();
    promise22PassedOver();
    promise22WhoHasThemThen();
    promise23Chain();
    promise24Circles();
    promise25Way();
    promise26WhatItWas();
    promise26Figures();
    promise26Kept();
    promise27WhoHad();
    promise28Two();
    promise29Refused();
    promise29Lost();
    promise30Added();
    C.end();
  }

  /** POLISHERS 0 .. 4, each giving to the next, and another one behind them: 12 MONTHS each. */
  private static PassedOnAndBetter polishers() {
    PassedOnAndBetter x = new PassedOnAndBetter();
    for (int i = 0; i < 6; i++) {
      x.friend(1, 0, 40);
    }
    for (int i = 0; i < 5; i++) {
      x.nexts(i, i + 1);
    }
    x.gift(0, 5, 8);
    return x;
  }

  /** As polishers(), but that the fifth gives to none. */
  private static PassedOnAndBetter fivePolishers() {
    PassedOnAndBetter x = polishers();
    x.nexts(4, 5);
    return x;
  }

  /** Two POOR who give it to and fro each MONTH, 1 more each time. */
  private static PassedOnAndBetter toAndFro() {
    PassedOnAndBetter x = Made.ring(1, 5, 5);
    x.gift(0, 5, 8);
    return x;
  }

  private static PassedOnAndBetter row(PassedOnAndBetter x, int... numbers) {
    Checks.rows(x, numbers);
    return x;
  }

  /** The refusals of n, where it has its place behind one who is there and what ahead of others. */
  private static void spans(String name, int place, int... a) {
    for (Twins.Making making : new Twins.Making[] {SOME, FULL}) {
      for (int n : new int[] {-1, LEAST}) {
        a[place] = n;
        T.refused(making, -4, name, a);
      }
      for (int n : new int[] {61, MOST}) {
        a[place] = n;
        T.refused(making, -6, name, a);
      }
    }
  }

  /** The refusals of what, which has the last place: below 0 and above the most. */
  private static void whats(String name, int most, int... a) {
    for (int what : new int[] {-1, most + 1, LEAST, MOST}) {
      a[a.length - 1] = what;
      T.refused(SOME, -2, name, a);
      T.refused(FULL, -2, name, a);
    }
  }

  /** The refusals of a number in this place of which there are none, 1 (ONE), 3 or 2, and 6 or 4. */
  private static void nobodies(String name, int place, boolean gift, int... a) {
    a[place] = 0;
    T.refused(NOBODY, -1, name, a);
    if (gift) {
      T.refused(ONE, -1, name, a);
    }
    for (int no : new int[] {-1, gift ? 2 : 3, gift ? 4 : 6, LEAST, MOST}) {
      if (no == -1 && (name.equals("then") || name.equals("added"))) {
        continue;
      }
      a[place] = no;
      T.refused(SOME, -1, name, a);
      if (no != (gift ? 2 : 3)) {
        T.refused(FULL, -1, name, a);
      }
    }
  }

  private static void monthMayPass999() {
    PassedOnAndBetter x = Made.ring(1, 5, 5);
    for (int i = 0; i < 16; i++) {
      x.months(60);
    }
    x.months(39);
    x.gift(0, 5, 8);
    C.due("MONTH", x.count(2), 999);
    C.due("behind", x.behind(0, 60, 1), 65);
    C.due("then", x.then(1, 59), 1);
    C.due("given", x.given(0, 1), 2);
    C.due("comes", x.comes(0, 1), 1);
    C.due("bestStart", x.bestStart(0, 60, 1), 65);
    C.due("bestNext", x.bestNext(1, 60, 1), 65);
    C.due("doorsFor", x.doorsFor(0, 1, 60), 0);
    C.due("doorWanted", x.doorWanted(1, 60, 1), 60);
    C.due("added", x.added(0, 60), 30);
    C.due("two", x.two(0, 1, 60), 10);
    C.due("lost", x.lost(0, 1, 1, 2, 1), 2);
    C.due("bare", x.bare(60), 0);
    C.due("year", x.year(), 12);
    C.due("lots", x.lots(1, 4, 0), 24);
    C.due("MONTH", x.count(2), 999);
  }

  private static void promise13Behind() {
    nobodies("behind", 0, true, 0, 0, 0);
    nobodies("behind", 0, true, 0, -1, 4);
    nobodies("behind", 0, true, 0, 61, 0);
    spans("behind", 1, 0, 0, 0);
    spans("behind", 1, 1, 0, 4);
    whats("behind", 3, 1, 60, 0);
    whats("behind", 3, 0, 0, 0);
    int[] now = {2, 8, 5, 2};
    int[] threeOn = {0, 13, 7, 3};
    for (int what = 0; what <= 3; what++) {
      T.asked(SOME, now[what], "behind", 0, 0, what);
      T.asked(SOME, threeOn[what], "behind", 0, 3, what);
    }
    int[][] on = {{58, 0, 63, 58}, {59, 1, 64, 59}, {60, 0, 65, 60}, {1, 1, 6, 1}, {0, 0, 5, 0}};
    for (int[] n : on) {
      PassedOnAndBetter x = toAndFro();
      C.due("FRIEND behind " + n[0], x.behind(0, n[0], 0), n[1]);
      C.due("WORTH behind " + n[0], x.behind(0, n[0], 1), n[2]);
      C.due("SIZE behind " + n[0], x.behind(0, n[0], 2), 8);
      C.due("HANDS behind " + n[0], x.behind(0, n[0], 3), n[3]);
    }
    C.due("behind 59", polishers().behind(0, 59, 0), 4);
    C.due("behind 60", polishers().behind(0, 60, 0), 5);
  }

  private static void promise14Then() {
    nobodies("then", 0, false, 0, 0);
    nobodies("then", 0, false, 0, -1);
    nobodies("then", 0, false, 0, 61);
    T.refused(NOBODY, -1, "then", -2, 0);
    T.refused(FULL, -1, "then", -2, 61);
    spans("then", 1, 0, 0);
    spans("then", 1, -1, 0);
    T.asked(NOBODY, 0, "then", -1, 0);
    T.asked(NOBODY, 0, "then", -1, 60);
    T.refused(NOBODY, -4, "then", -1, -1);
    T.refused(NOBODY, -6, "then", -1, 61);
    T.asked(ONE, 0, "then", -1, 60);
    T.asked(ONE, 0, "then", 0, 60);
    T.asked(SOME, 44, "then", -1, 0);
    T.asked(SOME, 1, "then", 2, 0);
    T.asked(SOME, 0, "then", 0, 0);
    // Behind 3 the one comes to 0 (13) and the other to 2 (38).
    T.asked(SOME, 44, "then", -1, 2);
    T.asked(SOME, 51, "then", -1, 3);
    T.asked(SOME, 1, "then", 0, 3);
    T.asked(SOME, 1, "then", 2, 3);
    PassedOnAndBetter x = toAndFro();
    x.gift(0, 5, 8);
    x.gift(0, 5, 8);
    x.gift(0, 5, 8);
    C.due("all with 0 behind 60", x.then(0, 60), 4);
    C.due("none with 1 behind 60", x.then(1, 60), 0);
    C.due("all with 1 behind 59", x.then(1, 59), 4);
    C.due("all WORTH behind 60", x.then(-1, 60), 260);
    C.due("all WORTH behind 59", x.then(-1, 59), 256);
  }

  private static void promise15Given() {
    nobodies("given", 0, true, 0, 0);
    nobodies("given", 0, true, 0, 2);
    whats("given", 1, 0, 0);
    whats("given", 1, 1, 0);
    T.asked(SOME, 3, "given", 0, 0);
    // With 2 three MONTHS more, with 0 one, with 1 three.
    T.asked(SOME, 7, "given", 0, 1);
    PassedOnAndBetter x = toAndFro();
    C.due("the first MONTH", x.given(0, 0), 1);
    C.due("ROUND of two", x.given(0, 1), 2);
    C.due("12 MONTHS", polishers().given(0, 0), 12);
    C.due("no ROUND", polishers().given(0, 1), -9);
    x = Made.one();
    x.gift(0, 5, 8);
    C.due("no NEXT: not given", x.given(0, 0), -9);
    C.due("no NEXT: no ROUND", x.given(0, 1), -9);
    x = toAndFro();
    x.doors(1, 7);
    C.due("a DOOR too narrow: not given", x.given(0, 0), -9);
    C.due("a DOOR too narrow: no ROUND", x.given(0, 1), -9);
    x = toAndFro();
    x.doors(0, 7);
    C.due("not back: given", x.given(0, 0), 1);
    C.due("not back: no ROUND", x.given(0, 1), -9);
  }

  private static void promise15RoundTo60() {
    PassedOnAndBetter x = Made.ring(0, 1, 1, 1, 1, 4);
    x.gift(0, 5, 8);
    C.due("59 MONTHS", x.given(0, 1), 59);
    x = Made.ring(0, 1, 1, 1, 1, 1);
    x.gift(0, 5, 8);
    C.due("60 MONTHS", x.given(0, 1), 60);
    x = Made.ring(0, 1, 1, 1, 1, 1, 5);
    x.gift(0, 5, 8);
    C.due("61 MONTHS", x.given(0, 1), -9);
    x.months(1);
    C.due("60 MONTHS, when one has gone by", x.given(0, 1), 60);
  }

  private static void promise16Comes() {
    nobodies("comes", 0, true, 0, 0);
    nobodies("comes", 0, true, 0, 6);
    nobodies("comes", 1, false, 0, 0);
    T.asked(SOME, 0, "comes", 0, 2);
    T.asked(SOME, 3, "comes", 0, 0);
    T.asked(SOME, 4, "comes", 0, 1);
    C.due("behind 60", polishers().comes(0, 5), 60);
    C.due("behind 48", polishers().comes(0, 4), 48);
    C.due("with him now", polishers().comes(0, 0), 0);
    C.due("never", fivePolishers().comes(0, 5), -9);
    PassedOnAndBetter x = toAndFro();
    C.due("with him now, and again behind 2", x.comes(0, 0), 0);
    C.due("behind 1", x.comes(0, 1), 1);
    x.doors(1, 8);
    C.due("through 8", x.comes(0, 1), 1);
    x.doors(1, 7);
    C.due("not through 7", x.comes(0, 1), -9);
  }

  private static void promise17Sticks() {
    T.asked(NOBODY, 0, "sticks");
    T.asked(ONE, 0, "sticks");
    T.asked(SOME, 0, "sticks");
    PassedOnAndBetter x = Made.lineOfPoor(6, 0);
    for (int i = 0; i < 4; i++) {
      C.due("GIFTS stick", x.sticks(), (1 << i) - 1);
      x.gift(5, 5, 8);
    }
    C.due("all four stick", x.sticks(), 15);
    x.hands(0, 0);
    C.due("all but the first", x.sticks(), 14);
    x.hands(3, 0);
    C.due("the two between", x.sticks(), 6);
    // Who WAITS 12: not with KEPT 10, with KEPT 11 (12 in the MONTH to come), and on.
    x = Made.ring(0, 1);
    x.gift(0, 5, 8);
    for (int kept = 0; kept <= 14; kept++) {
      C.due("KEPT " + kept, x.sticks(), kept < 11 ? 0 : 1);
      x.months(1);
    }
    x = Made.lineOfPoor(2, 0);
    x.gift(0, 5, 40);
    C.due("through a DOOR as large", x.sticks(), 0);
    x.gift(0, 5, 41);
    C.due("one too large", x.sticks(), 2);
  }

  private static void promise18BestStart() {
    nobodies("bestStart", 0, true, 0, 0, 0);
    nobodies("bestStart", 0, true, 0, -1, 2);
    spans("bestStart", 1, 0, 0, 0);
    spans("bestStart", 1, 1, 0, 2);
    whats("bestStart", 1, 1, 60, 0);
    whats("bestStart", 1, 0, 0, 0);
    T.asked(SOME, 0, "bestStart", 0, 0, 0);
    T.asked(SOME, 8, "bestStart", 0, 0, 1);
    // With 0: 9 behind 1, 11 behind 4; with 2: 13 behind 6, 11 at most before.
    T.asked(SOME, 0, "bestStart", 0, 4, 0);
    T.asked(SOME, 11, "bestStart", 0, 4, 1);
    T.asked(SOME, 2, "bestStart", 0, 6, 0);
    T.asked(SOME, 13, "bestStart", 0, 6, 1);
    PassedOnAndBetter x = Made.ring(9, 1, 4);
    x.gift(0, 5, 8);
    C.due("n 10: of several the least", x.bestStart(0, 10, 0), 0);
    C.due("n 10", x.bestStart(0, 10, 1), 5);
    C.due("n 11: the JOINER, 10 more", x.bestStart(0, 11, 0), 1);
    C.due("n 11", x.bestStart(0, 11, 1), 15);
    C.due("n 59", polishers().bestStart(0, 59, 1), 9);
    C.due("n 60", polishers().bestStart(0, 60, 1), 10);
    C.due("n 60: the first", polishers().bestStart(0, 60, 0), 0);
    x = Made.one();
    x.gift(0, 5, 8);
    C.due("he alone", x.bestStart(0, 60, 0), 0);
    C.due("he alone", x.bestStart(0, 60, 1), 15);
    x.months(60);
    C.due("not BETTERED, KEPT 0 there", x.bestStart(0, 2, 1), 15);
    C.due("not BETTERED, KEPT 0 there", x.bestStart(0, 3, 1), 25);
  }

  private static void promise19BestNext() {
    nobodies("bestNext", 0, false, 0, 0, 0);
    nobodies("bestNext", 0, false, 0, -1, 2);
    nobodies("bestNext", 0, false, 0, 61, 2);
    spans("bestNext", 1, 0, 0, 0);
    spans("bestNext", 1, 2, 0, 2);
    whats("bestNext", 1, 2, 60, 0);
    whats("bestNext", 1, 0, 0, 0);
    T.asked(ONE, 9, "bestNext", 0, 0, 0);
    T.asked(ONE, 0, "bestNext", 0, 60, 1);
    T.asked(SOME, 1, "bestNext", 0, 0, 0);
    T.asked(SOME, 44, "bestNext", 0, 0, 1);
    T.asked(SOME, 0, "bestNext", 1, 0, 0);
    T.asked(SOME, 0, "bestNext", 2, 0, 0);
    // POOR 0 gives it on behind 1: the SISTER has added behind 7, the HOLER behind 4.
    PassedOnAndBetter x = new PassedOnAndBetter();
    x.friend(5, 1, 40);
    x.friend(3, 0, 40);
    x.friend(2, 0, 40);
    x.gift(0, 5, 8);
    int[][] due = {{3, 1, 6}, {4, 1, 8}, {6, 1, 8}, {7, 2, 11}, {60, 2, 11}};
    for (int[] d : due) {
      C.due("n " + d[0], x.bestNext(0, d[0], 0), d[1]);
      C.due("n " + d[0] + ": all WORTH", x.bestNext(0, d[0], 1), d[2]);
    }
    C.due("the last one's, n 59", fivePolishers().bestNext(3, 59, 1), 9);
    C.due("the last one's, n 60", fivePolishers().bestNext(3, 60, 1), 10);
    C.due("none with all the same is the last", x.bestNext(1, 60, 0), 0);
    C.due("whom all are too large for", twoOfWhom(1).bestNext(0, 60, 0), 1);
  }

  /** Two, a DOOR of so much for the second, a GIFT of 8 with the first. */
  private static PassedOnAndBetter twoOfWhom(int door) {
    PassedOnAndBetter x = Made.lineOfPoor(2, 1);
    x.gift(0, 5, 8);
    x.doors(1, door);
    return x;
  }

  private static void promise20DoorsFor() {
    nobodies("doorsFor", 0, true, 0, 0, 0);
    nobodies("doorsFor", 0, true, 0, 6, -1);
    nobodies("doorsFor", 1, false, 0, 0, 0);
    nobodies("doorsFor", 1, false, 0, 0, -1);
    nobodies("doorsFor", 1, false, 0, 0, 61);
    spans("doorsFor", 2, 0, 0, 0);
    spans("doorsFor", 2, 1, 2, 0);
    T.asked(SOME, 0, "doorsFor", 0, 2, 0);
    T.asked(SOME, -9, "doorsFor", 0, 0, 2);
    T.asked(SOME, 0, "doorsFor", 0, 0, 3);
    C.due("behind 60", polishers().doorsFor(0, 5, 60), 0);
    C.due("not behind 59", polishers().doorsFor(0, 5, 59), -9);
    C.due("through 8: none", twoOfWhom(8).doorsFor(0, 1, 1), 0);
    C.due("not through 7: his", twoOfWhom(7).doorsFor(0, 1, 1), 2);
    C.due("not behind 0", twoOfWhom(7).doorsFor(0, 1, 0), -9);
    PassedOnAndBetter x = Made.lineOfPoor(6, 0);
    x.gift(0, 5, 99);
    for (int to = 0; to <= 5; to++) {
      int bits = (2 << to) - 2;
      C.due("all up to " + to, x.doorsFor(0, to, to), bits);
      C.due("all up to " + to, x.doorsFor(0, to, 60), bits);
      if (to > 0) {
        C.due("not before", x.doorsFor(0, to, to - 1), -9);
      }
    }
    C.due("as a DOOR of 99 is", x.friendOf(1, 2), 40);
    x = new PassedOnAndBetter();
    x.friend(0, 2, 99);
    x.friend(0, 0, 99);
    x.friend(0, 0, 1);
    x.nexts(0, 1);
    x.nexts(1, 2);
    x.gift(0, 5, 98);
    C.due("99 through 99", x.doorsFor(0, 1, 60), 0);
    C.due("and through one widened to 99", x.doorsFor(0, 2, 60), 4);
    x.gift(0, 5, 99);
    C.due("100 through none", x.doorsFor(1, 1, 60), -9);
  }

  private static void promise21DoorWanted() {
    nobodies("doorWanted", 0, false, 0, 0, 0);
    nobodies("doorWanted", 0, false, 0, -1, 2);
    nobodies("doorWanted", 0, false, 0, 61, 2);
    spans("doorWanted", 1, 0, 0, 0);
    spans("doorWanted", 1, 2, 0, 2);
    whats("doorWanted", 1, 2, 60, 0);
    whats("doorWanted", 1, 0, 0, 0);
    T.asked(ONE, 1, "doorWanted", 0, 60, 0);
    T.asked(ONE, 0, "doorWanted", 0, 60, 1);
    T.asked(SOME, 1, "doorWanted", 2, 0, 0);
    T.asked(SOME, 4, "doorWanted", 2, 0, 1);
    // The second GIFT is 11 behind 3, and through 2's DOOR then, if that is 11 or more.
    T.asked(SOME, 11, "doorWanted", 2, 3, 0);
    T.asked(SOME, 6, "doorWanted", 2, 3, 1);
    for (int size : new int[] {1, 2, 50, 98, 99}) {
      PassedOnAndBetter x = Made.lineOfPoor(2, 0);
      x.gift(0, 5, size);
      C.due("for a SIZE of " + size, x.doorWanted(1, 1, 0), size);
      C.due("HANDS", x.doorWanted(1, 1, 1), 1);
      C.due("of who has it", x.doorWanted(0, 1, 0), 1);
    }
    C.due("n 59", polishers().doorWanted(5, 59, 0), 1);
    C.due("n 59: HANDS", polishers().doorWanted(5, 59, 1), 4);
    C.due("n 60", polishers().doorWanted(5, 60, 0), 8);
    C.due("n 60: HANDS", polishers().doorWanted(5, 60, 1), 5);
    PassedOnAndBetter x = Made.lineOfPoor(2, 0);
    x.doors(0, 99);
    x.gift(0, 5, 8);
    x.gift(0, 5, 9);
    x.gift(0, 5, 20);
    C.due("for all three", x.doorWanted(1, 1, 0), 20);
    C.due("for all three: HANDS", x.doorWanted(1, 1, 1), 3);
    PassedOnAndBetter y = new PassedOnAndBetter();
    y.friend(0, 2, 40);
    y.friend(0, 0, 40);
    y.nexts(0, 1);
    y.gift(0, 5, 99);
    C.due("100 through none: the least", y.doorWanted(1, 60, 0), 1);
    C.due("100 through none", y.doorWanted(1, 60, 1), 0);
  }

  private static void promise22PassedOver() {
    for (Twins.Making making : new Twins.Making[] {NOBODY, ONE, SOME, FULL}) {
      T.refused(making, -4, "passedOver", -1);
      T.refused(making, -4, "passedOver", LEAST);
      T.refused(making, -6, "passedOver", 61);
      T.refused(making, -6, "passedOver", MOST);
    }
    T.asked(NOBODY, -9, "passedOver", 0);
    T.asked(NOBODY, -9, "passedOver", 60);
    T.asked(ONE, -9, "passedOver", 0);
    T.asked(ONE, -9, "passedOver", 60);
    T.asked(SOME, 0, "passedOver", 0);
    PassedOnAndBetter x = Made.one();
    x.friend(0, 9, 40);
    C.due("two are enough", x.passedOver(60), 0);
    // 0 .. 3 and 5 POLISHERS, 4 POOR and adding nothing: without 4 the last betters it behind 60.
    x = new PassedOnAndBetter();
    for (int i = 0; i < 6; i++) {
      x.friend(i == 4 ? 5 : 1, 0, 40);
    }
    for (int i = 0; i < 5; i++) {
      x.nexts(i, i + 1);
    }
    x.gift(0, 5, 8);
    C.due("n 59", x.passedOver(59), 0);
    C.due("n 60", x.passedOver(60), 4);
  }

  private static void promise22WhoHasThemThen() {
    // With the POLISHER; his NEXT, without NEXT, adds 10 behind 3.
    PassedOnAndBetter x = new PassedOnAndBetter();
    x.friend(0, 9, 40);
    x.friend(1, 0, 40);
    x.nexts(1, 0);
    x.gift(1, 5, 8);
    C.due("n 2", x.passedOver(2), 0);
    C.due("n 3: a GIFT goes to his NEXT, of number 0", x.passedOver(3), 1);
    x.doors(0, 1);
    C.due("through no DOOR", x.passedOver(3), 1);
    x.nexts(1, 0);
    C.due("no NEXT: it stays", x.passedOver(3), 0);
    // With one who has no NEXT: it stays with him, who betters it as before.
    x = Made.one();
    x.friend(1, 0, 40);
    x.gift(0, 5, 8);
    C.due("it stays, and is bettered", x.passedOver(3), 0);
    // Each the other's NEXT: who is left has none.
    x = Made.ring(9, 0, 5);
    x.gift(0, 5, 8);
    C.due("themselves: none, with 1 it is 5 more, with 0 10 more", x.passedOver(60), 1);
  }

  private static void promise23Chain() {
    nobodies("chain", 0, false, 0, 0);
    nobodies("chain", 0, false, 0, 2);
    whats("chain", 1, 0, 0);
    whats("chain", 1, 2, 0);
    T.asked(ONE, 1, "chain", 0, 0);
    T.asked(ONE, 0, "chain", 0, 1);
    T.asked(SOME, 3, "chain", 2, 0);
    T.asked(SOME, 1, "chain", 2, 1);
    for (int many = 1; many <= 6; many++) {
      PassedOnAndBetter line = Made.lineOfPoor(many, 0);
      C.due("a line of " + many, line.chain(0, 0), many);
      C.due("a line of " + many, line.chain(0, 1), 0);
      C.due("its last", line.chain(many - 1, 0), 1);
      if (many > 1) {
        line.nexts(many - 1, 0);
        C.due("a ring of " + many, line.chain(many - 1, 0), many);
        C.due("a ring of " + many, line.chain(many - 1, 1), 1);
      }
    }
    // Five that lead to one who comes again of two.
    PassedOnAndBetter x = Made.lineOfPoor(6, 0);
    x.nexts(5, 4);
    C.due("into a ring of two", x.chain(0, 0), 6);
    C.due("into a ring of two", x.chain(0, 1), 1);
  }

  private static void promise24Circles() {
    T.asked(NOBODY, 0, "circles");
    T.asked(ONE, 0, "circles");
    T.asked(SOME, 3, "circles");
    for (int many = 2; many <= 6; many++) {
      PassedOnAndBetter x = Made.lineOfPoor(6, 0);
      C.due("a line", x.circles(), 0);
      x.nexts(5, 6 - many);
      C.due("a ring of " + many, x.circles(), many);
    }
    PassedOnAndBetter x = Made.lineOfPoor(6, 0);
    x.nexts(1, 0);
    x.nexts(3, 2);
    x.nexts(5, 4);
    C.due("three rings", x.circles(), 6);
    x.nexts(5, 0);
    C.due("two rings", x.circles(), 4);
  }

  private static void promise25Way() {
    nobodies("way", 0, false, 0, 1);
    nobodies("way", 1, false, 0, 1);
    T.refused(ONE, -1, "way", 0, 0);
    T.refused(ONE, -1, "way", 0, 1);
    T.refused(SOME, -1, "way", 2, 2);
    T.refused(SOME, -1, "way", 3, 3);
    T.refused(FULL, -1, "way", 5, 5);
    T.asked(SOME, 1, "way", 0, 1);
    T.asked(SOME, 2, "way", 0, 2);
    for (int to = 1; to <= 5; to++) {
      C.due("along a line", Made.lineOfPoor(6, 0).way(0, to), to);
      C.due("not back", Made.lineOfPoor(6, 0).way(to, 0), -9);
    }
    PassedOnAndBetter x = Made.lineOfPoor(6, 0);
    x.nexts(5, 0);
    C.due("round to the one ahead", x.way(1, 0), 5);
    x.nexts(5, 1);
    C.due("round and round, not to 0", x.way(1, 0), -9);
    x.doors(1, 1);
    x.gift(0, 5, 99);
    C.due("whatever the DOORS", x.way(0, 1), 1);
  }

  private static void promise26WhatItWas() {
    nobodies("whatItWas", 0, true, 0, 0);
    nobodies("whatItWas", 0, true, 0, 3);
    whats("whatItWas", 2, 0, 0);
    whats("whatItWas", 2, 1, 0);
    // FIGURE 9: of a FRIEND it is 15 behind 3, of a POLISHER 6 behind 12, of a SISTER 10 behind 6,
    // of a HOLER 7 behind 3, of a JOINER 15 behind 11, of a POOR 10 behind 1.
    int[][] rows = {
      {63}, {63, 5}, {0, 6}, {0, 4}, {31, 5, 5}, {32, 5, 10}, {2 + 4 + 16, 5, 5, 5, 5},
      {1, 5, 5, 5, 15}, {8, 5, 5, 5, 7}, {4, 5, 5, 5, 5, 5, 5, 10}, {0, 5, 5, 5, 5, 5, 10},
      {18, 5, 5, 5, 5, 5, 5, 5, 5, 5, 5, 5}, {16, 5, 5, 5, 5, 5, 5, 5, 5, 5, 5, 5, 15},
      {2, 5, 5, 5, 5, 5, 5, 5, 5, 5, 5, 5, 5}, {0, 5, 5, 5, 5, 5, 5, 5, 5, 5, 5, 5, 6}
    };
    for (int[] r : rows) {
      PassedOnAndBetter x = Made.one();
      x.gift(0, 5, 8);
      int[] numbers = Arrays.copyOfRange(r, 1, r.length);
      C.due("KINDS by " + Arrays.toString(numbers), row(x, numbers).whatItWas(0, 0), r[0]);
      C.due("the ROW stays", x.count(7), numbers.length);
      C.due("his KIND stays", x.friendOf(0, 0), 0);
    }
    PassedOnAndBetter x = Made.one();
    x.gift(0, 99, 8);
    x.gift(0, 0, 8);
    C.due("99", row(x, 99).whatItWas(0, 0), 63);
    C.due("0", row(x, 0).whatItWas(1, 0), 63);
    x.months(3);
    C.due("what is above 99 can't be told", row(x, 99).whatItWas(0, 0), 0);
    C.due("not by KEPT either", x.whatItWas(0, 2), 0);
  }

  private static void promise26Figures() {
    // A FRIEND of FIGURE f has it f plus 1 more behind 12 less f.
    int[][] rows = {
      {1023}, {1023, 5}, {0, 6}, {1023, 5, 5, 5}, {512, 5, 5, 5, 15}, {511, 5, 5, 5, 5},
      {256, 5, 5, 5, 5, 14}, {1, 5, 5, 5, 5, 5, 5, 5, 5, 5, 5, 5, 5},
      {2, 5, 5, 5, 5, 5, 5, 5, 5, 5, 5, 5, 7}, {3, 5, 5, 5, 5, 5, 5, 5, 5, 5, 5, 5}
    };
    for (int[] r : rows) {
      PassedOnAndBetter x = Made.one();
      x.gift(0, 5, 8);
      int[] numbers = Arrays.copyOfRange(r, 1, r.length);
      C.due("FIGURES by " + Arrays.toString(numbers), row(x, numbers).whatItWas(0, 1), r[0]);
      C.due("his FIGURE stays", x.friendOf(0, 1), 9);
    }
    PassedOnAndBetter x = new PassedOnAndBetter();
    x.friend(3, 4, 40);
    x.gift(0, 5, 8);
    C.due("of a HOLER all do the same", row(x, 5, 5, 5, 7, 7).whatItWas(0, 1), 1023);
    // By the NEXT's KIND and FIGURE as they are: a POOR 1 behind 0 .. 9.
    x = new PassedOnAndBetter();
    x.friend(5, 3, 40);
    x.friend(5, 1, 40);
    x.nexts(0, 1);
    x.gift(0, 5, 8);
    C.due("2 more, then 1", row(x, 5, 7, 8).whatItWas(0, 1), 8 + 16);
    C.due("2 more, then 2", row(x, 5, 7, 9).whatItWas(0, 1), 0);
  }

  private static void promise26Kept() {
    PassedOnAndBetter x = new PassedOnAndBetter();
    x.friend(0, 0, 40);
    x.gift(0, 5, 8);
    // WAITS 12: with KEPT k it is 6 behind 12 less k, with 11 and 12 behind 1.
    int[][] rows = {
      {13}, {13, 5}, {0, 6}, {2, 5, 6}, {1, 5, 5, 6}, {11, 5, 5}, {10, 5, 5, 5},
      {1, 5, 5, 5, 5, 5, 5, 5, 5, 5, 5, 5, 6}, {1, 5, 5, 5, 5, 5, 5, 5, 5, 5, 5, 5, 5},
      {2, 5, 5, 5, 5, 5, 5, 5, 5, 5, 5, 5}
    };
    for (int[] r : rows) {
      int[] numbers = Arrays.copyOfRange(r, 1, r.length);
      C.due("KEPT by " + Arrays.toString(numbers), row(x, numbers).whatItWas(0, 2), r[0]);
      C.due("KEPT stays", x.giftOf(0, 3), 0);
    }
  }

  private static void promise27WhoHad() {
    nobodies("whoHad", 0, true, 0, 0);
    nobodies("whoHad", 0, true, 0, 2);
    whats("whoHad", 1, 0, 0);
    whats("whoHad", 1, 1, 0);
    int[][] rows = {
      {-9, 3}, {-9, 1, 0}, {0, 2, 1}, {0, 0, 2}, {0, 0, 99}, {-9, 1, 0, 1}, {1, 0, 0, 0},
      {-9, 1, 0, 1, 0, 1, 0, 1, 0, 1, 0, 1, 0, 1}, {11, 0, 0, 1, 0, 1, 0, 1, 0, 1, 0, 1, 0, 0},
      {0, 2, 1, 0, 1, 0, 1, 0, 1, 0, 1, 0, 1, 0}, {2, 0, 0, 1, 1}
    };
    for (int[] r : rows) {
      PassedOnAndBetter x = toAndFro();
      int[] numbers = Arrays.copyOfRange(r, 2, r.length);
      String told = Arrays.toString(numbers);
      C.due("not so of " + told, row(x, numbers).whoHad(0, 0), r[0]);
      C.due("STARTS of " + told, x.whoHad(0, 1), r[1]);
      C.due("the ROW stays", x.count(7), numbers.length);
      C.due("with whom it is", x.giftOf(0, 2), 0);
    }
    PassedOnAndBetter x = Made.lineOfPoor(6, 0);
    x.gift(0, 5, 8);
    C.due("of none: all STARTS", x.whoHad(0, 1), 63);
    C.due("the greatest", row(x, 5, 5).whoHad(0, 1), 32);
    // A HOLER gives it behind 3 from KEPT 0; it is KEPT 2 now, and BETTERED by none.
    x = Made.ring(0, 3, 1);
    x.gift(0, 5, 8);
    x.months(2);
    C.due("now KEPT 2", row(x, 0, 1).whoHad(0, 0), -9);
    C.due("KEPT 0 as a START", x.whoHad(0, 1), 0);
    C.due("KEPT 0 as a START", row(x, 0, 0, 0, 1).whoHad(0, 1), 1);
    C.due("not now", x.whoHad(0, 0), 1);
  }

  private static void promise28Two() {
    nobodies("two", 0, false, 0, 1, 0);
    nobodies("two", 1, false, 0, 1, 0);
    nobodies("two", 0, false, 0, 1, -1);
    nobodies("two", 1, false, 0, 1, 61);
    T.refused(SOME, -1, "two", 2, 2, 0);
    T.refused(SOME, -1, "two", 2, 2, 61);
    T.refused(ONE, -1, "two", 0, 0, -1);
    T.refused(FULL, -1, "two", 5, 5, 60);
    spans("two", 2, 0, 1, 0);
    spans("two", 2, 2, 0, 0);
    T.asked(SOME, 0, "two", 0, 1, 0);
    // Behind 3 the SISTER gives the one away and has the other from the HOLER.
    T.asked(SOME, 0, "two", 0, 2, 2);
    T.asked(SOME, 0, "two", 2, 0, 3);
    C.due("n 59", fivePolishers().two(4, 0, 59), 0);
    C.due("n 60", fivePolishers().two(4, 0, 60), 10);
    C.due("n 60, the other way", fivePolishers().two(0, 4, 60), 1);
    C.due("neither has it", fivePolishers().two(0, 1, 60), 0);
    PassedOnAndBetter x = Made.lineOfPoor(2, 1);
    x.nexts(0, 1);
    x.gift(0, 5, 8);
    C.due("n 0", x.two(0, 1, 0), 0);
    C.due("he alone", x.two(0, 1, 1), 10);
    x.gift(1, 5, 8);
    C.due("both", x.two(0, 1, 1), 11);
    C.due("both, the other way", x.two(1, 0, 1), 11);
    C.due("ADDS as before", x.friendOf(0, 5), 1);
  }

  private static void promise29Refused() {
    nobodies("lost", 0, true, 0, 0, 0, 2, 0);
    nobodies("lost", 0, true, 0, 9, -1, 1, 2);
    nobodies("lost", 1, false, 0, 0, 0, 2, 0);
    nobodies("lost", 1, false, 0, 0, 9, 21, 2);
    for (Twins.Making making : new Twins.Making[] {SOME, FULL}) {
      T.refused(making, -4, "lost", 0, 0, -1, 2, 0);
      T.refused(making, -4, "lost", 0, 0, LEAST, 2, 0);
      T.refused(making, -4, "lost", 0, 0, 0, 1, 0);
      T.refused(making, -4, "lost", 0, 0, 0, 0, 0);
      T.refused(making, -4, "lost", 0, 0, 0, LEAST, 0);
      T.refused(making, -4, "lost", 0, 0, 9, 1, 2);
      T.refused(making, -4, "lost", 0, 0, -1, 21, 2);
      T.refused(making, -6, "lost", 0, 0, 9, 2, 0);
      T.refused(making, -6, "lost", 0, 0, MOST, 2, 0);
      T.refused(making, -6, "lost", 0, 0, 0, 21, 0);
      T.refused(making, -6, "lost", 0, 0, 0, MOST, 0);
      T.refused(making, -6, "lost", 0, 0, 9, 21, 2);
    }
    whats("lost", 1, 0, 0, 8, 20, 0);
    whats("lost", 1, 1, 1, 0, 2, 0);
    C.due("as a long", Made.some().lost(0, 3, 0, 2, 0), 4000000000000000001L);
    C.due("as a long", Made.some().lost(0, 0, 9, 2, 0), 4000000000000000006L);
  }

  private static void lost(PassedOnAndBetter x, int friend, int n, int t, long above, long below) {
    String label = "with " + friend + " behind " + n + ", odds 1 in " + t;
    C.due(label + ": above", x.lost(0, friend, n, t, 0), above);
    C.due(label + ": below", x.lost(0, friend, n, t, 1), below);
  }

  private static void promise29Lost() {
    T.asked(SOME, 1, "lost", 0, 2, 0, 2, 0);
    T.asked(SOME, 1, "lost", 0, 2, 0, 2, 1);
    T.asked(SOME, 0, "lost", 0, 1, 0, 20, 0);
    T.asked(SOME, 1, "lost", 0, 1, 0, 20, 1);
    // SISTER 2 has KEPT it for 3: to 0 behind 3, if the third MONTH is not lost.
    T.asked(SOME, 19, "lost", 0, 0, 3, 20, 0);
    T.asked(SOME, 20, "lost", 0, 0, 3, 20, 1);
    // A FRIEND 4 WAITS 8: what matters is the eighth MONTH alone.
    PassedOnAndBetter x = new PassedOnAndBetter();
    x.friend(0, 4, 40);
    x.friend(5, 0, 40);
    x.nexts(0, 1);
    x.gift(0, 5, 8);
    lost(x, 0, 7, 2, 1, 1);
    lost(x, 1, 7, 20, 0, 1);
    lost(x, 0, 8, 2, 1, 2);
    lost(x, 1, 8, 2, 1, 2);
    lost(x, 0, 8, 20, 1, 20);
    lost(x, 1, 8, 20, 19, 20);
    // Of 8 MONTHS all lost, 7 lost, or fewer.
    x = Made.lineOfPoor(3, 0);
    x.gift(0, 5, 8);
    lost(x, 0, 8, 20, 1, 25600000000L);
    lost(x, 1, 8, 20, 19, 3200000000L);
    lost(x, 0, 8, 2, 1, 256);
    lost(x, 1, 8, 2, 1, 32);
    lost(x, 2, 8, 2, 247, 256);
    lost(x, 0, 2, 3, 1, 9);
    lost(x, 1, 2, 3, 4, 9);
    lost(x, 2, 2, 3, 4, 9);
    lost(x, 0, 1, 20, 1, 20);
    lost(x, 1, 1, 20, 19, 20);
    lost(x, 2, 1, 2, 0, 1);
    lost(x, 0, 0, 20, 1, 1);
    // A lost MONTH gives nothing on, and nothing is bettered: KEPT is 99 at most there, too.
    x = Made.one();
    x.gift(0, 5, 8);
    x.months(60);
    x.months(39);
    lost(x, 0, 8, 20, 1, 1);
    C.due("KEPT", x.giftOf(0, 3), 99);
  }

  private static void promise30Added() {
    nobodies("added", 0, false, 0, 0);
    nobodies("added", 0, false, 0, -1);
    nobodies("added", 0, false, 0, 61);
    T.refused(NOBODY, -1, "added", -2, 0);
    T.refused(FULL, -1, "added", -2, 61);
    spans("added", 1, 0, 0);
    spans("added", 1, -1, 0);
    T.asked(NOBODY, 0, "added", -1, 0);
    T.asked(NOBODY, 0, "added", -1, 60);
    T.refused(NOBODY, -4, "added", -1, -1);
    T.refused(NOBODY, -6, "added", -1, 61);
    T.asked(ONE, 0, "added", -1, 60);
    T.asked(ONE, 0, "added", 0, 60);
    T.asked(SOME, 0, "added", -1, 0);
    T.asked(SOME, 0, "added", 2, 2);
    T.asked(SOME, 5, "added", 2, 3);
    T.asked(SOME, 2, "added", 1, 3);
    T.asked(SOME, 0, "added", 0, 3);
    T.asked(SOME, 1, "added", 0, 4);
    T.asked(SOME, 0, "added", -1, 2);
    T.asked(SOME, 5, "added", -1, 3);
    T.asked(SOME, 4, "added", -1, 4);
    C.due("n 59", fivePolishers().added(4, 59), 0);
    C.due("n 60", fivePolishers().added(4, 60), 1);
    PassedOnAndBetter x = Made.ring(0, 1, 1, 1, 1, 1);
    x.gift(0, 5, 8);
    C.due("SHARED, n 11", x.added(-1, 11), 0);
    C.due("SHARED, n 12", x.added(-1, 12), 1);
    C.due("SHARED, n 59", x.added(-1, 59), 1);
    C.due("SHARED, n 60", x.added(-1, 60), 0);
    x = Made.one();
    x.gift(0, 5, 8);
    C.due("he alone", x.added(0, 3), 10);
    C.due("SHARED by one", x.added(-1, 3), 0);
  }
}
