/** Objects as the tests begin with them. */
final class Made {
  private Made() {}

  /** Nobody, no GIFTS. */
  static PassedOnAndBetter nobody() {
    return new PassedOnAndBetter();
  }

  /** One FRIEND without a GIFT. */
  static PassedOnAndBetter one() {
    PassedOnAndBetter x = new PassedOnAndBetter();
    x.friend(0, 9, 40);
    return x;
  }

  /**
   * Three FRIENDS in a ring, two GIFTS, MONTH 7; 4 to be TAKEN BACK, an IMAGE of MONTH 5, three
   * letters that lack a fourth, two numbers in the ROW.
   */
  static PassedOnAndBetter some() {
    PassedOnAndBetter x = new PassedOnAndBetter();
    x.friend(5, 1, 40);
    x.friend(3, 0, 40);
    x.friend(2, 2, 10);
    x.nexts(0, 1);
    x.nexts(1, 2);
    x.gift(0, 5, 8);
    x.gift(2, 30, 12);
    x.months(5);
    x.image();
    x.doors(2, 20);
    x.nexts(2, 0);
    x.months(2);
    tell(x, "n01");
    x.row(2);
    x.row(0);
    return x;
  }

  /**
   * Six FRIENDS, one of each KIND, in a ring, four GIFTS, MONTH 999; 8 to be TAKEN BACK, an IMAGE of
   * MONTH 960, 96 letters (24 STATEMENTS that MONTH is too late for), 12 numbers in the ROW.
   */
  static PassedOnAndBetter full() {
    PassedOnAndBetter x = new PassedOnAndBetter();
    for (int i = 0; i < 6; i++) {
      x.friend(i, 9 - i, 40 + i);
    }
    for (int i = 0; i < 6; i++) {
      x.nexts(i, (i + 1) % 6);
    }
    for (int i = 0; i < 4; i++) {
      x.gift(i, 10 * i, 5 + i);
    }
    for (int i = 0; i < 16; i++) {
      x.months(60);
    }
    x.image();
    x.doors(1, 99);
    x.hands(0, 3);
    x.months(30);
    x.nexts(4, 2);
    x.nexts(4, 5);
    x.hands(3, 3);
    x.doors(5, 1);
    x.months(9);
    for (int i = 0; i < 24; i++) {
      tell(x, "m01;");
    }
    for (int i = 0; i < 12; i++) {
      x.row(i < 4 ? x.giftOf(i, 2) : 99);
    }
    return x;
  }

  /** So many who give on each month, each to the next, the last to none. */
  static PassedOnAndBetter lineOfPoor(int many, int figure) {
    PassedOnAndBetter x = new PassedOnAndBetter();
    for (int i = 0; i < many; i++) {
      x.friend(5, figure, 40);
    }
    for (int i = 0; i + 1 < many; i++) {
      x.nexts(i, i + 1);
    }
    return x;
  }

  /** One of each of these KINDS with this FIGURE, each giving to the one behind, the last to 0. */
  static PassedOnAndBetter ring(int figure, int... kinds) {
    PassedOnAndBetter x = new PassedOnAndBetter();
    for (int kind : kinds) {
      x.friend(kind, figure, 99);
    }
    for (int i = 0; i < kinds.length; i++) {
      x.nexts(i, (i + 1) % kinds.length);
    }
    return x;
  }

  static void tell(PassedOnAndBetter x, String text) {
    for (int i = 0; i < text.length(); i++) {
      x.feed(text.charAt(i));
    }
  }
}
