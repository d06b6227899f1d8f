/** Promises 1 to 12 and 42 to 44: what there is, how it changes, what is taken back. */
final class FirstPartTest {
  private static final Checks C = new Checks();

  private FirstPartTest() {}

  public static void main(String[] args) {
    promise01NewObject();
    promise02Feed();
    promise03FormFaults();
    promise03SenseFaults();
    promise03WhatComes();
    promise03MonthsToldAndLeft();
    promise04FriendOf();
    promise05GiftOf();
    promise06Friend();
    promise07Gift();
    promise08Nexts();
    promise09Doors();
    promise10Hands();
    promise11Months();
    promise11Limits();
    promise12Back();
    promise12WhatLeavesNone();
    promise42And43Image();
    promise44Count();
    C.end();
  }

  /** A friend who gives on each month and adds one. */
  private static int poor(PassedOnAndBetter x) {
    return x.friend(5, 1, 40);
  }

  private static void promise01NewObject() {
    PassedOnAndBetter x = new PassedOnAndBetter();
    for (int what = 0; what <= 8; what++) {
      C.due("new: count(" + what + ")", x.count(what), 0);
    }
    for (int what = 11; what <= 16; what++) {
      C.due("new: count(" + what + ")", x.count(what), 0);
    }
    C.due("new: friendOf(0, 0)", x.friendOf(0, 0), -1);
    C.due("new: giftOf(0, 0)", x.giftOf(0, 0), -1);
  }

  private static void promise02Feed() {
    PassedOnAndBetter x = new PassedOnAndBetter();
    C.due("feed(0)", x.feed(0), 1);
    C.due("feed(255)", x.feed(255), 2);
    C.due("feed(256)", x.feed(256), -6);
    C.due("feed(-1)", x.feed(-1), -4);
    for (int i = 3; i <= 96; i++) {
      C.due("feed " + i, x.feed('f'), i);
    }
    C.due("feed 97", x.feed('f'), -6);
    C.due("feed(-1), full", x.feed(-1), -4);
    C.due("letters", x.count(6), 96);
    C.due("-4", x.count(14), 2);
    C.due("-6", x.count(16), 2);
    C.due("a letter of no circle", x.circle(), -1000);
    C.due("letters, told", x.count(6), 0);
  }

  private static void fault(String text, int want) {
    PassedOnAndBetter x = new PassedOnAndBetter();
    C.due("\"" + text + "\"", Checks.tell(x, text), want);
    C.due("\"" + text + "\": letters left", x.count(6), 0);
    C.due("\"" + text + "\": friends", x.count(0), 0);
    for (int what = 11; what <= 16; what++) {
      C.due("\"" + text + "\": count(" + what + ")", x.count(what), 0);
    }
  }

  private static void promise03FormFaults() {
    fault("", -1000);
    fault("f", -1001);
    fault("f0", -1002);
    fault("f0040", -1005);
    fault("x", -1000);
    fault(";", -1000);
    fault("F0040;", -1000);
    fault("0f040;", -1000);
    fault("f00a0;", -1003);
    fault("f004;", -1004);
    fault("f00400;", -1005);
    fault("f0040:", -1005);
    fault("n0:;", -1002);
    fault("n0/;", -1002);
    fault("n012;", -1003);
    fault("d04;", -1003);
    fault("d0401;", -1004);
    fault("g0508;", -1005);
    fault("g050800;", -1006);
    fault("h0;", -1002);
    fault("h000;", -1003);
    fault("m1;", -1002);
    fault("m001;", -1003);
    fault("f0040;x", -1006);
    fault("f0040;;", -1006);
    fault("f0040; n", -1006);
    fault("f0040;f", -1007);
    fault("f9000;x", -1006);
    fault("n00;f00", -1007);
    fault("f0040;m12;m1" + (char) 233, -1012);
  }

  private static void promise03SenseFaults() {
    fault("f6040;", -2000);
    fault("f0000;", -2000);
    fault("f0040;f0000;", -2006);
    fault("n01;", -2000);
    fault("f0040;n00;", -2006);
    fault("f0040;n01;", -2006);
    fault("f0040;n10;", -2006);
    fault("n01;f0040;f0040;", -2000);
    fault("d040;", -2000);
    fault("f0040;d000;", -2006);
    fault("f0040;d140;", -2006);
    fault("g05080;", -2000);
    fault("f0040;g05000;", -2006);
    fault("f0040;g05081;", -2006);
    fault("f0040;h00;", -2006);
    fault("f0040;g05080;h10;", -2013);
    fault("f0040;g05080;h01;", -2013);
    fault("m00;", -2000);
    fault("m61;", -2000);
    fault("m99;", -2000);
    fault("m60;m61;m00;", -2004);
    fault("f0040;f0040;f0040;f0040;f0040;f0040;f0040;", -2036);
    fault("f0040;g05080;g05080;g05080;g05080;g05080;", -2034);
  }

  private static void promise03WhatComes() {
    PassedOnAndBetter x = new PassedOnAndBetter();
    C.due("six statements", Checks.tell(x, "f0940;f2201;n01;d133;g99991;g00010;"), 6);
    C.due("friends", x.count(0), 2);
    C.allDue("friend 0", of(x, 0), 0, 9, 40, 1, 3, 10, 4, 1);
    C.allDue("friend 1", of(x, 1), 2, 2, 33, -9, 6, 5, 2, 1);
    C.allDue("gift 0", gift(x, 0), 99, 99, 1, 0, 0, 0);
    C.allDue("gift 1", gift(x, 1), 0, 1, 0, 0, 0, 0);
    C.due("told again, not", Checks.tell(x, "n01;"), 1);
    C.due("NEXT of 0", x.friendOf(0, 3), -9);
    C.due("twice told again", Checks.tell(x, "n01;n10;n01;"), 3);
    C.due("NEXT of 0", x.friendOf(0, 3), -9);
    C.due("NEXT of 1", x.friendOf(1, 3), 0);
    C.due("another NEXT", Checks.tell(x, "f5040;n12;"), 2);
    C.due("NEXT of 1", x.friendOf(1, 3), 2);
    C.due("figures up to nine", Checks.tell(x, "f5999;h02;"), 2);
    C.due("DOOR of 3", x.friendOf(3, 2), 99);
    C.due("gift 0 is with", x.giftOf(0, 2), 2);
    C.due("the least door, the least span", Checks.tell(x, "d301;m01;"), 2);
    C.due("DOOR of 3", x.friendOf(3, 2), 1);
    C.due("MONTH", x.count(2), 1);
    C.due("a fault", Checks.tell(x, "h00;m60;f0140;n00;"), -2014);
    C.due("nothing came: gift 0 is with", x.giftOf(0, 2), 2);
    C.due("nothing came: MONTH", x.count(2), 1);
    C.due("nothing came: friends", x.count(0), 4);
  }

  private static void promise03MonthsToldAndLeft() {
    PassedOnAndBetter x = new PassedOnAndBetter();
    C.due("with months", Checks.tell(x, "f5140;f3040;n01;g05080;m04;h00;m02;"), 7);
    C.due("MONTH", x.count(2), 6);
    // One on to 1 (6, 8); by him 8, 5, and stuck; to 0 again: 9 and on to 1, kept a month there.
    C.allDue("gift 0", gift(x, 0), 9, 5, 1, 1, 0, 2);
    C.due("a change", x.nexts(0, 1), 0);
    C.due("a fault leaves what can be taken back", Checks.tell(x, "n00;"), -2000);
    C.due("TAKEN BACK", x.count(8), 1);
    C.due("no fault leaves none", Checks.tell(x, "n01;"), 1);
    C.due("TAKEN BACK", x.count(8), 0);
    C.due("back()", x.back(), -3);
    for (int i = 0; i < 16; i++) {
      C.due("m60", Checks.tell(x, "m60;"), 1);
    }
    C.due("MONTH", x.count(2), 966);
    C.due("above 999", Checks.tell(x, "m34;"), -2000);
    C.due("999, and above", Checks.tell(x, "m33;m01;"), -2004);
    C.due("999", Checks.tell(x, "m33;"), 1);
    C.due("MONTH", x.count(2), 999);
  }

  private static long[] of(PassedOnAndBetter x, int friend) {
    long[] all = new long[8];
    for (int what = 0; what < 8; what++) {
      all[what] = x.friendOf(friend, what);
    }
    return all;
  }

  private static long[] gift(PassedOnAndBetter x, int gift) {
    long[] all = new long[6];
    for (int what = 0; what < 6; what++) {
      all[what] = x.giftOf(gift, what);
    }
    return all;
  }

  private static void promise04FriendOf() {
    PassedOnAndBetter x = new PassedOnAndBetter();
    x.friend(0, 0, 1);
    x.friend(0, 9, 99);
    x.friend(0, 5, 40);
    x.friend(1, 9, 40);
    x.friend(2, 9, 40);
    x.friend(2, 0, 40);
    C.allDue("FRIEND 0", of(x, 0), 0, 0, 1, -9, 12, 1, 0, 0);
    C.allDue("FRIEND 9", of(x, 1), 0, 9, 99, -9, 3, 10, 4, 0);
    C.allDue("FRIEND 5", of(x, 2), 0, 5, 40, -9, 7, 6, 2, 0);
    C.allDue("POLISHER 9", of(x, 3), 1, 9, 40, -9, 12, 1, 0, 0);
    C.allDue("SISTER 9", of(x, 4), 2, 9, 40, -9, 6, 5, 9, 0);
    C.allDue("SISTER 0", of(x, 5), 2, 0, 40, -9, 6, 5, 0, 0);
    x.nexts(5, 0);
    x.gift(5, 1, 1);
    x.gift(5, 2, 2);
    x.gift(4, 2, 2);
    C.due("NEXT", x.friendOf(5, 3), 0);
    C.due("HOLDS", x.friendOf(5, 7), 2);
    C.due("nobody", x.friendOf(6, 0), -1);
    C.due("nobody", x.friendOf(-1, 8), -1);
    C.due("no such what", x.friendOf(0, 8), -2);
    C.due("no such what", x.friendOf(0, -1), -2);
    x = new PassedOnAndBetter();
    x.friend(3, 9, 40);
    x.friend(4, 9, 40);
    x.friend(4, 0, 40);
    x.friend(5, 9, 40);
    x.friend(5, 0, 40);
    x.friend(5, 2, 40);
    C.allDue("HOLER 9", of(x, 0), 3, 9, 40, -9, 3, 2, 0, 0);
    C.allDue("JOINER 9", of(x, 1), 4, 9, 40, -9, 11, 10, 4, 0);
    C.allDue("JOINER 0", of(x, 2), 4, 0, 40, -9, 11, 1, 4, 0);
    C.allDue("POOR 9", of(x, 3), 5, 9, 40, -9, 1, 5, 2, 0);
    C.allDue("POOR 0", of(x, 4), 5, 0, 40, -9, 1, 0, 0, 0);
    C.allDue("POOR 2", of(x, 5), 5, 2, 40, -9, 1, 1, 1, 0);
  }

  private static void promise05GiftOf() {
    PassedOnAndBetter x = new PassedOnAndBetter();
    x.friend(3, 0, 40);
    poor(x);
    x.gift(0, 5, 8);
    C.allDue("at first", gift(x, 0), 5, 8, 0, 0, 0, 0);
    x.months(2);
    C.allDue("2 on", gift(x, 0), 5, 8, 0, 2, 0, 0);
    x.months(1);
    C.allDue("bettered and stuck", gift(x, 0), 7, 5, 0, 3, 1, 0);
    x.nexts(0, 1);
    x.months(1);
    C.allDue("given on, bettered once", gift(x, 0), 7, 5, 1, 0, 0, 1);
    C.due("no gift", x.giftOf(1, 6), -1);
    C.due("no gift", x.giftOf(-1, 0), -1);
    C.due("no such what", x.giftOf(0, 6), -2);
    C.due("no such what", x.giftOf(0, -1), -2);
  }

  private static void promise06Friend() {
    PassedOnAndBetter x = new PassedOnAndBetter();
    C.due("first", x.friend(0, 0, 1), 0);
    C.due("second", x.friend(5, 9, 99), 1);
    C.due("kind 6", x.friend(6, -1, 100), -2);
    C.due("kind -1", x.friend(-1, 0, 1), -2);
    C.due("figure -1", x.friend(0, -1, 100), -4);
    C.due("door 0", x.friend(0, 10, 0), -4);
    C.due("figure 10", x.friend(0, 10, 1), -6);
    C.due("door 100", x.friend(0, 0, 100), -6);
    for (int i = 2; i < 6; i++) {
      C.due("friend", x.friend(1, 4, 40), i);
    }
    C.due("the seventh", x.friend(1, 4, 40), -6);
    C.due("the seventh, kind 6", x.friend(6, 4, 40), -2);
    C.due("the seventh, door 0", x.friend(1, 4, 0), -4);
    C.due("friends", x.count(0), 6);
    C.due("-2", x.count(12), 3);
    C.due("-4", x.count(14), 3);
    C.due("-6", x.count(16), 3);
  }

  private static void promise07Gift() {
    PassedOnAndBetter x = new PassedOnAndBetter();
    C.due("nobody", x.gift(0, 5, 8), -1);
    poor(x);
    C.due("first", x.gift(0, 0, 1), 0);
    C.due("second", x.gift(0, 99, 99), 1);
    C.due("nobody", x.gift(1, -1, 0), -1);
    C.due("nobody", x.gift(-1, 5, 8), -1);
    C.due("worth -1", x.gift(0, -1, 100), -4);
    C.due("size 0", x.gift(0, 100, 0), -4);
    C.due("worth 100", x.gift(0, 100, 1), -6);
    C.due("size 100", x.gift(0, 0, 100), -6);
    C.due("third", x.gift(0, 1, 1), 2);
    C.due("fourth", x.gift(0, 1, 1), 3);
    C.due("the fifth", x.gift(0, 1, 1), -6);
    C.due("the fifth, nobody", x.gift(1, 1, 1), -1);
    C.due("the fifth, size 0", x.gift(0, 1, 0), -4);
    C.due("gifts", x.count(1), 4);
  }

  private static void promise08Nexts() {
    PassedOnAndBetter x = new PassedOnAndBetter();
    poor(x);
    poor(x);
    poor(x);
    C.due("nexts(0, 1)", x.nexts(0, 1), 1);
    C.due("NEXT", x.friendOf(0, 3), 1);
    C.due("nexts(0, 2)", x.nexts(0, 2), 1);
    C.due("NEXT", x.friendOf(0, 3), 2);
    C.due("nexts(0, 2) again", x.nexts(0, 2), 0);
    C.due("NEXT", x.friendOf(0, 3), -9);
    C.due("nexts(2, 0)", x.nexts(2, 0), 1);
    C.due("one twice", x.nexts(1, 1), -1);
    C.due("nobody", x.nexts(3, 0), -1);
    C.due("nobody", x.nexts(0, 3), -1);
    C.due("nobody", x.nexts(-1, 0), -1);
    C.due("nobody", x.nexts(0, -1), -1);
    C.due("-1", x.count(11), 5);
    C.due("NEXT", x.friendOf(0, 3), -9);
  }

  private static void promise09Doors() {
    PassedOnAndBetter x = new PassedOnAndBetter();
    poor(x);
    C.due("doors(0, 1)", x.doors(0, 1), 40);
    C.due("doors(0, 99)", x.doors(0, 99), 1);
    C.due("DOOR", x.friendOf(0, 2), 99);
    C.due("door 0", x.doors(0, 0), -4);
    C.due("door 100", x.doors(0, 100), -6);
    C.due("nobody", x.doors(1, 0), -1);
    C.due("nobody", x.doors(-1, 5), -1);
    C.due("DOOR", x.friendOf(0, 2), 99);
  }

  private static void promise10Hands() {
    PassedOnAndBetter x = new PassedOnAndBetter();
    x.friend(3, 0, 40);
    poor(x);
    x.nexts(1, 0);
    x.gift(1, 5, 8);
    x.months(4);
    C.allDue("stuck with 0", gift(x, 0), 8, 5, 0, 3, 1, 1);
    C.due("hands(0, 0)", x.hands(0, 0), 0);
    C.allDue("begun again", gift(x, 0), 8, 5, 0, 0, 0, 1);
    C.due("hands(0, 1)", x.hands(0, 1), 0);
    C.due("hands(0, 1)", x.hands(0, 1), 1);
    C.allDue("with 1, HANDS stay", gift(x, 0), 8, 5, 1, 0, 0, 1);
    C.due("no gift", x.hands(1, 0), -1);
    C.due("no gift", x.hands(-1, 0), -1);
    C.due("nobody", x.hands(0, 2), -1);
    C.due("nobody", x.hands(0, -1), -1);
  }

  private static void promise11Months() {
    PassedOnAndBetter x = new PassedOnAndBetter();
    C.due("with nobody", x.months(60), 0);
    x = new PassedOnAndBetter();
    poor(x);
    x.friend(2, 4, 10);
    x.friend(1, 0, 13);
    x.nexts(0, 1);
    x.nexts(1, 2);
    x.gift(0, 5, 10);
    x.gift(0, 7, 11);
    C.due("all WORTH", x.months(1), 6 + 8);
    C.allDue("through the door", gift(x, 0), 6, 10, 1, 0, 0, 1);
    C.allDue("not through", gift(x, 1), 8, 11, 0, 1, 1, 0);
    C.due("not bettered twice", x.months(5), 14);
    C.due("a month later", x.months(1), 11 + 8);
    C.allDue("swelled, then not through", gift(x, 0), 11, 14, 1, 6, 1, 1);
    x.doors(2, 14);
    x.doors(1, 11);
    C.due("tried again", x.months(1), 19);
    C.allDue("through now", gift(x, 0), 11, 14, 2, 0, 0, 2);
    C.allDue("through now", gift(x, 1), 8, 11, 1, 0, 0, 1);
    C.due("MONTH", x.count(2), 8);
    C.due("none", x.months(0), -4);
    C.due("below none", x.months(-60), -4);
    C.due("above 60", x.months(61), -6);
  }

  private static void promise11Limits() {
    PassedOnAndBetter x = new PassedOnAndBetter();
    poor(x);
    poor(x);
    x.friend(3, 0, 40);
    poor(x);
    x.nexts(0, 1);
    x.nexts(1, 0);
    x.nexts(2, 3);
    x.nexts(3, 2);
    x.gift(0, 99, 8);
    x.gift(2, 0, 4);
    x.months(60);
    // A round of four months takes three from the size: 4, 1, 1 ..
    C.allDue("one at least is left", gift(x, 1), 45, 1, 2, 0, 0, 30);
    for (int i = 0; i < 14; i++) {
      x.months(60);
    }
    C.due("99 and 900", x.giftOf(0, 0), 999);
    x.months(60);
    C.due("999 at most", x.giftOf(0, 0), 999);
    C.due("HANDS 99 at most", x.giftOf(0, 5), 99);
    C.due("MONTH", x.count(2), 960);
    C.due("above 999", x.months(40), -6);
    C.due("MONTH", x.count(2), 960);
    C.holds("999", x.months(39) > 0);
    C.due("above 999", x.months(1), -6);
    C.due("in mind it may", x.behind(0, 60, 1), 999);
    x = new PassedOnAndBetter();
    x.friend(0, 0, 40);
    x.gift(0, 0, 4);
    x.months(60);
    x.months(39);
    C.due("KEPT", x.giftOf(0, 3), 99);
    x.months(60);
    C.due("KEPT 99 at most", x.giftOf(0, 3), 99);
  }

  private static void promise12Back() {
    PassedOnAndBetter x = new PassedOnAndBetter();
    C.due("none", x.back(), -3);
    poor(x);
    poor(x);
    x.gift(0, 5, 8);
    x.nexts(0, 1);
    x.doors(1, 7);
    x.months(5);
    x.hands(0, 1);
    C.due("what can be", x.count(8), 4);
    C.due("hands", x.back(), 3);
    C.allDue("as it was", gift(x, 0), 6, 8, 0, 5, 1, 0);
    C.due("months", x.back(), 2);
    C.allDue("as it was", gift(x, 0), 5, 8, 0, 0, 0, 0);
    C.due("MONTH", x.count(2), 0);
    C.due("doors", x.back(), 1);
    C.due("DOOR", x.friendOf(1, 2), 40);
    C.due("nexts", x.back(), 0);
    C.due("NEXT", x.friendOf(0, 3), -9);
    C.due("none", x.back(), -3);
    for (int door = 1; door <= 11; door++) {
      x.doors(0, door);
      C.due("8 at most", x.count(8), Math.min(8, door));
    }
    for (int left = 7; left >= 0; left--) {
      C.due("back", x.back(), left);
      C.due("DOOR", x.friendOf(0, 2), left + 3);
    }
    C.due("none", x.back(), -3);
    C.due("-3", x.count(13), 3);
    x.doors(0, 3);
    x.hands(0, 0);
    C.due("if all stays, too", x.count(8), 2);
  }

  private static void promise12WhatLeavesNone() {
    PassedOnAndBetter x = new PassedOnAndBetter();
    poor(x);
    poor(x);
    x.doors(0, 3);
    x.friend(6, 0, 40);
    x.gift(2, 5, 8);
    x.restore();
    x.nexts(0, 0);
    x.doors(0, 0);
    x.hands(0, 0);
    x.months(0);
    x.image();
    x.row(1);
    x.judge();
    C.due("refused, none of these", x.count(8), 1);
    x.friend(5, 1, 40);
    C.due("a friend leaves none", x.count(8), 0);
    x.doors(0, 4);
    x.gift(0, 5, 8);
    C.due("a gift leaves none", x.back(), -3);
    x.doors(0, 5);
    x.restore();
    C.due("restore leaves none", x.back(), -3);
  }

  private static void promise42And43Image() {
    PassedOnAndBetter x = new PassedOnAndBetter();
    C.due("no image", x.restore(), -3);
    C.due("an image of nobody", x.image(), 0);
    poor(x);
    poor(x);
    x.nexts(0, 1);
    x.gift(0, 5, 8);
    x.months(3);
    C.due("image", x.image(), 3);
    x.months(10);
    x.nexts(1, 0);
    x.doors(0, 2);
    x.friend(0, 0, 40);
    x.gift(2, 1, 1);
    x.row(3);
    x.feed('f');
    x.friendOf(9, 0);
    C.due("restore", x.restore(), 3);
    C.due("friends", x.count(0), 2);
    C.due("gifts", x.count(1), 1);
    C.due("MONTH", x.count(2), 3);
    C.allDue("friend 0", of(x, 0), 5, 1, 40, 1, 1, 1, 0, 0);
    C.due("NEXT of 1", x.friendOf(1, 3), -9);
    C.allDue("the gift", gift(x, 0), 7, 8, 1, 2, 1, 1);
    C.due("letters stay", x.count(6), 1);
    C.due("the ROW stays", x.count(7), 1);
    C.due("refusals stay", x.count(11), 1);
    C.due("refusals stay", x.count(13), 1);
    x.months(4);
    C.due("restore again", x.restore(), 3);
    C.due("MONTH", x.count(2), 3);
    C.due("a later image", x.months(1), 7);
    C.due("image", x.image(), 4);
    x.back();
    C.due("restore", x.restore(), 4);
  }

  private static void promise44Count() {
    PassedOnAndBetter x = new PassedOnAndBetter();
    poor(x);
    poor(x);
    x.gift(0, 5, 8);
    x.gift(1, 6, 9);
    x.nexts(0, 1);
    x.months(2);
    x.feed('f');
    x.row(1);
    x.row(2);
    C.due("FRIENDS", x.count(0), 2);
    C.due("GIFTS", x.count(1), 2);
    C.due("MONTH", x.count(2), 2);
    C.due("all WORTH", x.count(3), 7 + 7);
    C.due("all SIZE", x.count(4), 17);
    C.due("all HANDS", x.count(5), 1);
    C.due("letters", x.count(6), 1);
    C.due("in the ROW", x.count(7), 2);
    C.due("TAKEN BACK", x.count(8), 2);
    x.friendOf(7, 0);
    x.friendOf(0, 9);
    x.friendOf(0, 9);
    x.restore();
    x.restore();
    x.restore();
    x.row(-1);
    x.mean(5);
    for (int i = 0; i < 5; i++) {
      x.row(100);
    }
    C.due("-1", x.count(11), 1);
    C.due("-2", x.count(12), 3);
    C.due("-3", x.count(13), 3);
    C.due("-4", x.count(14), 1);
    C.due("-5", x.count(15), 0);
    C.due("-6", x.count(16), 5);
    C.due("another what", x.count(9), -9);
    C.due("another what", x.count(10), -9);
    C.due("another what", x.count(17), -9);
    C.due("another what", x.count(-1), -9);
    C.due("another what", x.count(Integer.MIN_VALUE), -9);
    C.due("another what", x.count(Integer.MAX_VALUE), -9);
    C.due("is not refused", x.count(12), 3);
  }
}
