/** Promises 13 to 30: what would be. */
final class InMindTest {
  private static final Checks C = new Checks();
  private static final long R = 4000000000000000000L;

  private InMindTest() {}

  public static void main(String[] args) {
    promise13Behind();
    promise14Then();
    promise15Given();
    promise16Comes();
    promise17Sticks();
    promise18BestStart();
    promise19BestNext();
    promise20DoorsFor();
    promise21DoorWanted();
    promise22PassedOver();
    promise22WhoIsThemselves();
    promise23And24Chain();
    promise25Way();
    promise26WhatItWas();
    promise26Kept();
    promise27WhoHad();
    promise28Two();
    promise29Lost();
    promise30Added();
    nothingChanges();
    C.end();
  }

  /**
   * A ring of POOR (each month, 1 more), HOLER (behind 3, 2 more) and SISTER (behind 6, 5 more). The
   * gift is behind 0, 1, 4, 10, 11, 14, 20 .. months with 0, 1, 2, 0, 1, 2, 0 .., worth 5, 6, 8, 13,
   * 14, 16, 21 .., of size 8, 8, 5, 7, 7, 4, 6 ..
   */
  private static PassedOnAndBetter ring() {
    PassedOnAndBetter x = new PassedOnAndBetter();
    x.friend(5, 1, 40);
    x.friend(3, 0, 40);
    x.friend(2, 2, 10);
    x.nexts(0, 1);
    x.nexts(1, 2);
    x.nexts(2, 0);
    x.gift(0, 5, 8);
    return x;
  }

  /** So many who give on each month, each to the next, the last to none. */
  private static PassedOnAndBetter lineOfPoor(int many, int figure) {
    PassedOnAndBetter x = new PassedOnAndBetter();
    for (int i = 0; i < many; i++) {
      x.friend(5, figure, 40);
    }
    for (int i = 0; i + 1 < many; i++) {
      x.nexts(i, i + 1);
    }
    return x;
  }

  private static void behind(PassedOnAndBetter x, int n, int friend, int worth, int size, int hands) {
    C.due("FRIEND behind " + n, x.behind(0, n, 0), friend);
    C.due("WORTH behind " + n, x.behind(0, n, 1), worth);
    C.due("SIZE behind " + n, x.behind(0, n, 2), size);
    C.due("HANDS behind " + n, x.behind(0, n, 3), hands);
  }

  private static void promise13Behind() {
    PassedOnAndBetter x = ring();
    behind(x, 0, 0, 5, 8, 0);
    behind(x, 1, 1, 6, 8, 1);
    behind(x, 3, 1, 6, 8, 1);
    behind(x, 4, 2, 8, 5, 2);
    behind(x, 10, 0, 13, 7, 3);
    behind(x, 14, 2, 16, 4, 5);
    behind(x, 60, 0, 53, 3, 18);
    C.due("no gift", x.behind(1, -1, 4), -1);
    C.due("no gift", x.behind(-1, 0, 0), -1);
    C.due("below", x.behind(0, -1, 4), -4);
    C.due("above", x.behind(0, 61, 4), -6);
    C.due("no such what", x.behind(0, 60, 4), -2);
    C.due("no such what", x.behind(0, 0, -1), -2);
    x.months(4);
    behind(x, 0, 2, 8, 5, 2);
    behind(x, 6, 0, 13, 7, 3);
  }

  private static void promise14Then() {
    PassedOnAndBetter x = ring();
    x.gift(2, 30, 9);
    C.due("with 0, now", x.then(0, 0), 1);
    C.due("with 1 behind 1", x.then(1, 1), 1);
    C.due("with 2 behind 4", x.then(2, 4), 2);
    C.due("with 2 behind 6", x.then(2, 6), 1);
    C.due("all WORTH, now", x.then(-1, 0), 35);
    C.due("all WORTH behind 4", x.then(-1, 4), 38);
    // The other comes from 2 to 0 behind 6 (35), to 1 behind 7 (36) and bettered behind 10 (38).
    C.due("all WORTH behind 10", x.then(-1, 10), 13 + 38);
    C.due("nobody", x.then(3, -1), -1);
    C.due("nobody", x.then(-2, 0), -1);
    C.due("below", x.then(-1, -1), -4);
    C.due("above", x.then(0, 61), -6);
    C.due("of none", new PassedOnAndBetter().then(-1, 60), 0);
    C.due("nobody there", new PassedOnAndBetter().then(0, 0), -1);
  }

  private static void promise15Given() {
    PassedOnAndBetter x = ring();
    C.due("GIVEN", x.given(0, 0), 1);
    C.due("ROUND", x.given(0, 1), 10);
    x.months(1);
    C.due("GIVEN", x.given(0, 0), 3);
    C.due("ROUND", x.given(0, 1), 10);
    C.due("no gift", x.given(1, 2), -1);
    C.due("no gift", x.given(-1, 0), -1);
    C.due("no such what", x.given(0, 2), -2);
    C.due("no such what", x.given(0, -1), -2);
    x = lineOfPoor(3, 0);
    x.nexts(2, 1);
    x.gift(0, 5, 8);
    C.due("GIVEN", x.given(0, 0), 1);
    C.due("never round", x.given(0, 1), -9);
    x.doors(1, 7);
    C.due("never given", x.given(0, 0), -9);
    C.due("staying is no round", x.given(0, 1), -9);
    x = ringOfPolishers(5);
    C.due("GIVEN, the longest", x.given(0, 0), 12);
    C.due("ROUND of 60", x.given(0, 1), 60);
    C.due("ROUND of 72", ringOfPolishers(6).given(0, 1), -9);
  }

  /** Who keep it for 12 months each. */
  private static PassedOnAndBetter ringOfPolishers(int many) {
    PassedOnAndBetter x = new PassedOnAndBetter();
    for (int i = 0; i < many; i++) {
      x.friend(1, 0, 40);
    }
    for (int i = 0; i < many; i++) {
      x.nexts(i, (i + 1) % many);
    }
    x.gift(0, 5, 8);
    return x;
  }

  private static void promise16Comes() {
    PassedOnAndBetter x = ring();
    C.due("with him now", x.comes(0, 0), 0);
    C.due("with 1", x.comes(0, 1), 1);
    C.due("with 2", x.comes(0, 2), 4);
    x.nexts(1, 2);
    C.due("never with 2", x.comes(0, 2), -9);
    C.due("no gift", x.comes(1, 0), -1);
    C.due("nobody", x.comes(0, 3), -1);
    C.due("nobody", x.comes(0, -1), -1);
    x = ringOfPolishers(6);
    C.due("behind 60", x.comes(0, 5), 60);
    C.due("the fourth", x.comes(0, 4), 48);
  }

  private static void promise17Sticks() {
    PassedOnAndBetter x = new PassedOnAndBetter();
    C.due("none", x.sticks(), 0);
    x.friend(5, 0, 40);
    x.friend(0, 9, 10);
    x.gift(0, 5, 8);
    C.due("no NEXT", x.sticks(), 1);
    x.nexts(0, 1);
    C.due("can be given", x.sticks(), 0);
    x.doors(1, 7);
    C.due("not through", x.sticks(), 1);
    x.doors(1, 8);
    C.due("just through", x.sticks(), 0);
    // 1 WAITS 3 and SWELLS by 4.
    x.nexts(1, 0);
    x.doors(0, 11);
    x.gift(1, 5, 8);
    C.due("not due yet", x.sticks(), 0);
    x.months(1);
    C.due("not due yet", x.sticks() & 2, 0);
    x.months(1);
    C.due("due, and too large then", x.sticks() & 2, 2);
    x.doors(0, 12);
    C.due("due, and through", x.sticks() & 2, 0);
    x.doors(0, 11);
    x.months(1);
    C.due("bettered and stuck", x.sticks() & 2, 2);
    x.doors(0, 12);
    C.due("bettered, and through", x.sticks() & 2, 0);
    // 3 off behind a HOLER's hands is looked at, too.
    x = new PassedOnAndBetter();
    x.friend(3, 0, 40);
    x.friend(3, 0, 5);
    x.nexts(0, 1);
    x.gift(0, 5, 8);
    x.gift(1, 5, 1);
    x.months(2);
    C.due("through, 3 less", x.sticks(), 2);
  }

  private static void promise18BestStart() {
    PassedOnAndBetter x = ring();
    C.due("n 9", x.bestStart(0, 9, 0), 1);
    C.due("its WORTH", x.bestStart(0, 9, 1), 12);
    C.due("n 10, of several the least", x.bestStart(0, 10, 0), 0);
    C.due("n 10", x.bestStart(0, 10, 1), 13);
    C.due("n 0", x.bestStart(0, 0, 0), 0);
    C.due("n 0", x.bestStart(0, 0, 1), 5);
    C.due("n 6", x.bestStart(0, 6, 0), 2);
    C.due("n 6", x.bestStart(0, 6, 1), 10);
    x.months(3);
    // 2 months kept by 1 and worth 6 now; from the start again all the same.
    C.due("KEPT 0", x.bestStart(0, 1, 0), 0);
    C.due("KEPT 0", x.bestStart(0, 1, 1), 7);
    C.due("no gift", x.bestStart(1, -1, 2), -1);
    C.due("below", x.bestStart(0, -1, 2), -4);
    C.due("above", x.bestStart(0, 61, 2), -6);
    C.due("no such what", x.bestStart(0, 60, 2), -2);
    x = new PassedOnAndBetter();
    x.friend(5, 1, 40);
    x.friend(1, 0, 40);
    x.gift(0, 5, 8);
    x.months(2);
    C.due("not BETTERED", x.bestStart(0, 1, 1), 7);
    x.gift(1, 0, 8);
    C.due("worth nothing", x.bestStart(1, 0, 0), 0);
    C.due("worth nothing", x.bestStart(1, 0, 1), 0);
  }

  private static void promise19BestNext() {
    PassedOnAndBetter x = new PassedOnAndBetter();
    x.friend(5, 9, 40);
    x.gift(0, 0, 10);
    C.due("one alone", x.bestNext(0, 5, 0), 9);
    C.due("one alone", x.bestNext(0, 5, 1), 5);
    x.friend(1, 0, 40);
    x.friend(3, 0, 40);
    C.due("n 5", x.bestNext(0, 5, 0), 2);
    C.due("n 5", x.bestNext(0, 5, 1), 7);
    C.due("n 1, of several the least", x.bestNext(0, 1, 0), 1);
    C.due("n 1", x.bestNext(0, 1, 1), 5);
    C.due("n 13, both the HOLER and the POLISHER", x.bestNext(0, 13, 1), 7);
    x.doors(2, 11);
    C.due("n 13, not through: the POLISHER", x.bestNext(0, 13, 0), 1);
    C.due("n 13", x.bestNext(0, 13, 1), 6);
    C.due("of 1", x.bestNext(1, 60, 0), 0);
    C.due("of 1", x.bestNext(1, 60, 1), 5);
    x.nexts(0, 1);
    C.due("of 1: back to 0", x.bestNext(1, 14, 0), 0);
    C.due("of 1: back to 0", x.bestNext(1, 14, 1), 11);
    C.due("no gifts, the least", lineOfPoor(3, 1).bestNext(0, 9, 0), 1);
    C.due("no gifts", lineOfPoor(3, 1).bestNext(1, 9, 1), 0);
    C.due("nobody", x.bestNext(3, -1, 2), -1);
    C.due("nobody", x.bestNext(-1, 0, 0), -1);
    C.due("below", x.bestNext(0, -1, 2), -4);
    C.due("above", x.bestNext(0, 61, 2), -6);
    C.due("no such what", x.bestNext(0, 60, 2), -2);
    C.due("no such what", x.bestNext(0, 60, -1), -2);
  }

  private static void promise20DoorsFor() {
    PassedOnAndBetter x = lineOfPoor(5, 0);
    x.doors(1, 5);
    x.doors(3, 7);
    x.doors(4, 8);
    x.gift(0, 5, 8);
    C.due("with him now", x.doorsFor(0, 0, 0), 0);
    C.due("the first door", x.doorsFor(0, 1, 60), 2);
    C.due("no other needed", x.doorsFor(0, 2, 60), 2);
    C.due("both", x.doorsFor(0, 3, 60), 10);
    C.due("both", x.doorsFor(0, 4, 60), 10);
    C.due("just in time", x.doorsFor(0, 3, 3), 10);
    C.due("too late", x.doorsFor(0, 3, 2), -9);
    x.hands(0, 2);
    C.due("never back", x.doorsFor(0, 0, 60), -9);
    C.due("one", x.doorsFor(0, 4, 2), 8);
    C.due("no gift", x.doorsFor(1, 0, -1), -1);
    C.due("nobody", x.doorsFor(0, 5, 61), -1);
    C.due("below", x.doorsFor(0, 0, -1), -4);
    C.due("above", x.doorsFor(0, 0, 61), -6);
    x = new PassedOnAndBetter();
    x.friend(0, 2, 99);
    x.friend(0, 0, 99);
    x.nexts(0, 1);
    x.gift(0, 5, 99);
    C.due("too large for 99", x.doorsFor(0, 1, 60), -9);
    x = lineOfPoor(6, 0);
    x.gift(0, 5, 99);
    C.due("all but his own", x.doorsFor(0, 5, 60), 62);
    x.hands(0, 5);
    x.nexts(5, 0);
    C.due("the door of 0", x.doorsFor(0, 0, 1), 1);
    C.due("that and four more", x.doorsFor(0, 4, 60), 31);
  }

  private static void promise21DoorWanted() {
    PassedOnAndBetter x = lineOfPoor(2, 0);
    C.due("no gifts", x.doorWanted(1, 9, 0), 1);
    C.due("no gifts", x.doorWanted(1, 9, 1), 0);
    x.nexts(1, 0);
    x.gift(0, 5, 8);
    C.due("as the gift", x.doorWanted(1, 4, 0), 8);
    C.due("HANDS", x.doorWanted(1, 4, 1), 4);
    C.due("n 0", x.doorWanted(1, 0, 0), 1);
    C.due("n 0", x.doorWanted(1, 0, 1), 0);
    x.months(3);
    C.due("with 1 now", x.doorWanted(1, 1, 0), 1);
    C.due("all HANDS, those of now too", x.doorWanted(1, 1, 1), 4);
    x.gift(0, 5, 99);
    C.due("99", x.doorWanted(1, 1, 0), 99);
    C.due("99", x.doorWanted(1, 1, 1), 5);
    C.due("nobody", x.doorWanted(2, -1, 2), -1);
    C.due("below", x.doorWanted(0, -1, 2), -4);
    C.due("above", x.doorWanted(0, 61, 2), -6);
    C.due("no such what", x.doorWanted(0, 60, 2), -2);
    C.due("no such what", x.doorWanted(0, 60, -1), -2);
  }

  private static void promise22PassedOver() {
    PassedOnAndBetter x = new PassedOnAndBetter();
    C.due("none", x.passedOver(60), -9);
    C.due("below", x.passedOver(-1), -4);
    C.due("above", x.passedOver(61), -6);
    x.friend(5, 9, 40);
    x.gift(0, 10, 5);
    C.due("one alone", x.passedOver(0), -9);
    x.friend(1, 0, 40);
    x.friend(5, 9, 40);
    x.nexts(0, 1);
    x.nexts(1, 2);
    x.nexts(2, 0);
    // Without the POLISHER five times 5; without 2 once 5; without 0 none.
    C.due("the slow one", x.passedOver(5), 1);
    C.due("of several the least", x.passedOver(0), 0);
    C.due("no gifts, the least", lineOfPoor(2, 0).passedOver(9), 0);
    // Without 0 the gift is with 1 from now on and with 2 behind 12: 1 and 5 more behind 13;
    // without 2 it is 5 more behind 1, with 1 till 13: 1 more.
    C.due("his gifts go to his NEXT", x.passedOver(13), 1);
  }

  private static void promise22WhoIsThemselves() {
    PassedOnAndBetter x = new PassedOnAndBetter();
    x.friend(0, 9, 90);
    x.friend(5, 9, 90);
    x.nexts(0, 1);
    x.nexts(1, 0);
    x.gift(0, 0, 5);
    // Alone with 1 the gift is 5 more, alone with 0 it is 10 more; neither gives to himself.
    C.due("themselves: none", x.passedOver(10), 1);
    x = new PassedOnAndBetter();
    x.friend(0, 0, 40);
    x.friend(2, 0, 40);
    x.nexts(0, 1);
    x.gift(0, 0, 5);
    x.months(11);
    // Without 0 it is with the SISTER, KEPT 0 (not yet 5 more); without her 0 betters it (1 more).
    C.due("KEPT 0 with the NEXT", x.passedOver(3), 1);
    C.due("6 months are enough", x.passedOver(6), 0);
  }

  private static void promise23And24Chain() {
    PassedOnAndBetter x = new PassedOnAndBetter();
    C.due("none", x.circles(), 0);
    C.due("nobody", x.chain(0, 0), -1);
    x = lineOfPoor(5, 0);
    C.due("all five", x.chain(0, 0), 5);
    C.due("none comes again", x.chain(0, 1), 0);
    C.due("he alone", x.chain(4, 0), 1);
    C.due("he alone", x.chain(4, 1), 0);
    C.due("no circle", x.circles(), 0);
    x.nexts(2, 1);
    C.due("into a circle", x.chain(0, 0), 3);
    C.due("one comes again", x.chain(0, 1), 1);
    C.due("in the circle", x.chain(1, 0), 2);
    C.due("in the circle", x.chain(2, 1), 1);
    C.due("beside it", x.chain(3, 0), 2);
    C.due("beside it", x.chain(3, 1), 0);
    C.due("come again to themselves", x.circles(), 2);
    x.nexts(4, 3);
    C.due("two circles", x.circles(), 4);
    C.due("nobody", x.chain(5, 2), -1);
    C.due("nobody", x.chain(-1, 0), -1);
    C.due("no such what", x.chain(0, 2), -2);
    C.due("no such what", x.chain(0, -1), -2);
    x = lineOfPoor(6, 0);
    x.nexts(5, 0);
    C.due("all six", x.circles(), 6);
    C.due("all six", x.chain(3, 0), 6);
    C.due("all six", x.chain(3, 1), 1);
  }

  private static void promise25Way() {
    PassedOnAndBetter x = lineOfPoor(6, 0);
    C.due("one", x.way(0, 1), 1);
    C.due("five", x.way(0, 5), 5);
    C.due("not back", x.way(5, 0), -9);
    C.due("not back", x.way(2, 1), -9);
    x.nexts(5, 1);
    C.due("round", x.way(3, 2), 4);
    C.due("not into 0", x.way(3, 0), -9);
    C.due("one twice", x.way(2, 2), -1);
    C.due("nobody", x.way(6, 0), -1);
    C.due("nobody", x.way(0, 6), -1);
    C.due("nobody", x.way(-1, 0), -1);
  }

  private static void toldBy(PassedOnAndBetter x, String row, int kinds, int figures, int kepts) {
    int told = x.count(7);
    C.due("KINDS " + row, x.whatItWas(0, 0), kinds);
    C.due("FIGURES " + row, x.whatItWas(0, 1), figures);
    C.due("KEPT " + row, x.whatItWas(0, 2), kepts);
    C.due("the ROW stays", x.count(7), told);
  }

  private static void promise26WhatItWas() {
    PassedOnAndBetter x = ring();
    toldBy(x, "of none", 63, 1023, 13);
    Checks.rows(x, 5);
    toldBy(x, "5", 63, 1023, 13);
    Checks.rows(x, 5, 6);
    toldBy(x, "5 6", 32, 6, 13);
    Checks.rows(x, 5, 5);
    // A FRIEND of figure 1 WAITS 11; POLISHER, SISTER, HOLER, JOINER more than 1; POOR 0 adds none.
    toldBy(x, "5 5", 31, 1, 0);
    Checks.rows(x, 5, 6, 6, 6, 8, 8, 8, 8, 8, 8, 13, 14);
    toldBy(x, "the whole way", 32, 6, 13);
    Checks.rows(x, 5, 6, 6, 6, 8, 8, 8, 8, 8, 8, 13, 13);
    toldBy(x, "the whole way but one", 0, 0, 0);
    Checks.rows(x, 6);
    toldBy(x, "6", 0, 0, 0);
    C.due("no gift", x.whatItWas(1, 3), -1);
    C.due("no gift", x.whatItWas(-1, 0), -1);
    C.due("no such what", x.whatItWas(0, 3), -2);
    C.due("no such what", x.whatItWas(0, -1), -2);
  }

  private static void promise26Kept() {
    PassedOnAndBetter x = ring();
    x.hands(0, 1);
    Checks.rows(x, 5, 5);
    C.due("KEPT 0, 1", x.whatItWas(0, 2), 2);
    Checks.rows(x, 5, 5, 7);
    C.due("KEPT 1", x.whatItWas(0, 2), 1);
    Checks.rows(x, 5, 7);
    C.due("KEPT 2 .. 12", x.whatItWas(0, 2), 11);
    C.due("now it is none of these", x.whatItWas(0, 0), 0);
    x = new PassedOnAndBetter();
    x.friend(0, 0, 40);
    x.gift(0, 5, 8);
    Checks.rows(x, 5, 6);
    C.due("KEPT 11, 12", x.whatItWas(0, 2), 2);
    x.months(12);
    Checks.rows(x, 6, 6);
    C.due("BETTERED stays", x.whatItWas(0, 2), 13);
    Checks.rows(x, 6, 7);
    C.due("BETTERED stays", x.whatItWas(0, 0), 0);
  }

  private static void promise27WhoHad() {
    PassedOnAndBetter x = ring();
    C.due("of none", x.whoHad(0, 0), -9);
    C.due("of none", x.whoHad(0, 1), 7);
    Checks.rows(x, 0, 1, 1, 1, 2);
    C.due("all so", x.whoHad(0, 0), -9);
    C.due("all so", x.whoHad(0, 1), 1);
    Checks.rows(x, 0, 1, 1, 2, 2);
    C.due("one not so", x.whoHad(0, 0), 3);
    C.due("one not so", x.whoHad(0, 1), 0);
    Checks.rows(x, 1, 1, 1, 2);
    C.due("from another", x.whoHad(0, 0), 0);
    C.due("from another", x.whoHad(0, 1), 2);
    C.due("the ROW stays", x.count(7), 4);
    Checks.rows(x, 9);
    C.due("nobody", x.whoHad(0, 0), 0);
    C.due("nobody", x.whoHad(0, 1), 0);
    x.months(3);
    Checks.rows(x, 1, 2);
    C.due("KEPT 2 now", x.whoHad(0, 0), -9);
    C.due("KEPT 0 as START", x.whoHad(0, 1), 0);
    C.due("no gift", x.whoHad(1, 2), -1);
    C.due("no gift", x.whoHad(-1, 0), -1);
    C.due("no such what", x.whoHad(0, 2), -2);
    C.due("no such what", x.whoHad(0, -1), -2);
  }

  private static void promise28Two() {
    PassedOnAndBetter x = ring();
    C.due("nothing yet", x.two(0, 2, 0), 0);
    C.due("with another then", x.two(0, 1, 1), 0);
    C.due("the one has it again", x.two(0, 2, 10), 10);
    C.due("the other has it again", x.two(2, 0, 10), 1);
    C.due("one twice", x.two(1, 1, 5), -1);
    C.due("nobody", x.two(3, 0, -1), -1);
    C.due("nobody", x.two(0, 3, 61), -1);
    C.due("below", x.two(0, 1, -1), -4);
    C.due("above", x.two(0, 1, 61), -6);
    x = new PassedOnAndBetter();
    x.friend(5, 1, 40);
    x.friend(5, 1, 40);
    x.friend(5, 0, 40);
    x.gift(0, 5, 8);
    x.gift(1, 5, 8);
    x.gift(2, 5, 8);
    C.due("both have one", x.two(0, 1, 1), 11);
    C.due("the other adds nothing", x.two(0, 2, 1), 10);
    x = lineOfPoor(2, 1);
    x.nexts(1, 0);
    x.gift(0, 99, 8);
    for (int i = 0; i < 14; i++) {
      x.months(60);
    }
    C.due("with 0", x.months(56), 995);
    C.due("twice is more than once", x.two(0, 1, 2), 10);
    C.due("with 1", x.months(1), 996);
    C.due("999 by the other, if he adds twice", x.two(1, 0, 2), 1);
    C.due("with 1", x.months(2), 998);
    C.due("once is enough for 999", x.two(1, 0, 2), 0);
  }

  private static void fraction(
      PassedOnAndBetter x, int friend, int n, int t, long above, long below) {
    C.due("above the line " + friend + " " + n + " " + t, x.lost(0, friend, n, t, 0), above);
    C.due("below the line " + friend + " " + n + " " + t, x.lost(0, friend, n, t, 1), below);
  }

  private static void promise29Lost() {
    PassedOnAndBetter x = ring();
    fraction(x, 0, 0, 2, 1, 1);
    fraction(x, 1, 0, 2, 0, 1);
    fraction(x, 0, 1, 4, 1, 4);
    fraction(x, 1, 1, 4, 3, 4);
    fraction(x, 0, 2, 2, 1, 4);
    fraction(x, 1, 2, 2, 3, 4);
    fraction(x, 2, 2, 2, 0, 1);
    fraction(x, 0, 8, 20, 1, 25600000000L);
    x.hands(0, 1);
    // Kept by the HOLER all the same: with 2 behind 3 unless the third is lost.
    fraction(x, 2, 2, 3, 0, 1);
    fraction(x, 2, 3, 20, 19, 20);
    fraction(x, 1, 3, 20, 1, 20);
    fraction(x, 2, 4, 2, 3, 4);
    C.due("no gift", x.lost(1, 0, -1, 1, 2), R + 1);
    C.due("nobody", x.lost(0, 3, -1, 1, 2), R + 1);
    C.due("n below", x.lost(0, 0, -1, 21, 2), R + 4);
    C.due("t below", x.lost(0, 0, 9, 1, 2), R + 4);
    C.due("n above", x.lost(0, 0, 9, 2, 2), R + 6);
    C.due("t above", x.lost(0, 0, 8, 21, 2), R + 6);
    C.due("no such part", x.lost(0, 0, 8, 20, 2), R + 2);
    C.due("no such part", x.lost(0, 0, 8, 20, -1), R + 2);
    C.due("-1", x.count(11), 2);
    C.due("-2", x.count(12), 2);
    C.due("-4", x.count(14), 2);
    C.due("-6", x.count(16), 2);
  }

  private static void promise30Added() {
    PassedOnAndBetter x = ring();
    C.due("POOR", x.added(0, 1), 1);
    C.due("POOR, twice", x.added(0, 11), 2);
    C.due("HOLER, not yet", x.added(1, 3), 0);
    C.due("HOLER", x.added(1, 4), 2);
    C.due("SISTER", x.added(2, 10), 5);
    C.due("SHARED", x.added(-1, 0), 0);
    C.due("SHARED", x.added(-1, 1), 1);
    C.due("SHARED", x.added(-1, 4), 2);
    C.due("SHARED", x.added(-1, 10), 4);
    x.months(10);
    C.due("from now on", x.added(2, 0), 0);
    C.due("from now on", x.added(2, 10), 5);
    x.gift(2, 0, 8);
    C.due("to all GIFTS", x.added(2, 10), 10);
    C.due("nobody", x.added(3, -1), -1);
    C.due("nobody", x.added(-2, 0), -1);
    C.due("below", x.added(-1, -1), -4);
    C.due("above", x.added(0, 61), -6);
    C.due("SHARED by none", new PassedOnAndBetter().added(-1, 60), 0);
    x = lineOfPoor(2, 1);
    x.nexts(1, 0);
    x.gift(0, 99, 8);
    for (int i = 0; i < 14; i++) {
      x.months(60);
    }
    x.months(30);
    C.due("WORTH", x.count(3), 969);
    C.due("999 at most", x.added(0, 60) + x.added(1, 60), 30);
  }

  /** A question in mind leaves all as it is. */
  private static void nothingChanges() {
    PassedOnAndBetter x = ring();
    x.months(2);
    x.behind(0, 60, 0);
    x.then(-1, 60);
    x.given(0, 1);
    x.comes(0, 2);
    x.sticks();
    x.bestStart(0, 60, 0);
    x.bestNext(0, 60, 0);
    x.doorsFor(0, 2, 60);
    x.doorWanted(0, 60, 0);
    x.passedOver(60);
    x.whatItWas(0, 0);
    x.whatItWas(0, 1);
    x.whatItWas(0, 2);
    x.whoHad(0, 1);
    x.two(0, 1, 60);
    x.lost(0, 0, 8, 2, 0);
    x.added(-1, 60);
    x.bare(60);
    x.year();
    x.lots(20, 1, 0);
    C.due("MONTH", x.count(2), 2);
    C.due("TAKEN BACK", x.count(8), 1);
    C.due("WORTH", x.giftOf(0, 0), 6);
    C.due("FRIEND", x.giftOf(0, 2), 1);
    C.due("KEPT", x.giftOf(0, 3), 1);
    C.due("HANDS", x.giftOf(0, 5), 1);
    C.due("NEXT", x.friendOf(0, 3), 1);
    C.due("DOOR", x.friendOf(0, 2), 40);
    C.due("KIND", x.friendOf(1, 0), 3);
    C.due("FIGURE", x.friendOf(1, 1), 0);
    for (int what = 11; what <= 16; what++) {
      C.due("count(" + what + ")", x.count(what), 0);
    }
  }
}
