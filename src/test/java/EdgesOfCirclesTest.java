/** Promise 3 at each of its edges: what a CIRCLE's letters may be, and what they may tell. */
final class EdgesOfCirclesTest {
  private static final Checks C = new Checks();
  private static final Twins T = new Twins(C);

  /** One STATEMENT of each kind, as each must be where one FRIEND is with one GIFT. */
  private static final String[] STATEMENTS = {"f0040;", "n01;", "d040;", "g05080;", "h00;", "m01;"};
  /** Letters beside those that a STATEMENT is made of, and these. */
  private static final int[] LETTERS = {
    0, ' ', '/', '0', '9', ':', ';', '<', 'F', 'N', 'M', 'a', 'c', 'd', 'e', 'f', 'g', 'h', 'i', 'l',
    'm', 'n', 'o', 127, 128, 176, 233, 255
  };

  private EdgesOfCirclesTest() {}

  public static void main(String[] args) {
    oneStatementAtLeast();
    whatLacks();
    eachLetterInEachPlace();
    formBeforeSense();
    lettersFull();
    friendsTold();
    nextsTold();
    doorsTold();
    giftsTold();
    handsTold();
    monthsTold();
    behindAllAheadOfIt();
    aFaultLeavesAllButTheLetters();
    withoutFaultAllOfItComes();
    noneIsLeftToBeTakenBack();
    nothingOfAFaultStaysInMind();
    C.end();
  }

  private static int answer(PassedOnAndBetter x, String text) {
    Made.tell(x, text);
    return x.circle();
  }

  /** A text told to a new object. */
  private static void told(String text, int due) {
    C.due("\"" + text + "\"", answer(new PassedOnAndBetter(), text), due);
  }

  private static void toldTo(PassedOnAndBetter x, String text, int due) {
    C.due("\"" + text + "\"", answer(x, text), due);
  }

  private static void oneStatementAtLeast() {
    told("", -1000);
    told("m01;", 1);
    PassedOnAndBetter x = new PassedOnAndBetter();
    toldTo(x, "m01;", 1);
    C.due("the letters are no more", x.circle(), -1000);
  }

  private static void whatLacks() {
    for (String s : STATEMENTS) {
      for (int many = 1; many < s.length(); many++) {
        told(s.substring(0, many), -1000 - many);
        told("f0140;" + s.substring(0, many), -1006 - many);
      }
    }
  }

  /** A letter is at fault there if no STATEMENT has one like it in its place. */
  private static void eachLetterInEachPlace() {
    for (String s : STATEMENTS) {
      for (int place = 0; place < s.length(); place++) {
        for (int letter : LETTERS) {
          if (!fits(s, place, letter)) {
            String changed = s.substring(0, place) + (char) letter + s.substring(place + 1);
            told(changed, -1000 - place);
            told("m01;" + changed, -1004 - place);
            told(changed.substring(0, place + 1), -1000 - place);
          }
        }
      }
    }
  }

  private static boolean fits(String s, int place, int letter) {
    if (place == 0) {
      return "fndghm".indexOf(letter) >= 0;
    }
    return place == s.length() - 1 ? letter == ';' : letter >= '0' && letter <= '9';
  }

  private static void formBeforeSense() {
    told("m00;x", -1004);
    told("m00;m99;m0", -1010);
    told("n00;h00;g00000;f9900;d000;m61;f", -1031);
    told("m00;m01;m00;", -2000);
    told("m01;m00;m00;", -2004);
  }

  private static void lettersFull() {
    StringBuilder text = new StringBuilder();
    for (int i = 0; i < 24; i++) {
      text.append("m01;");
    }
    PassedOnAndBetter x = new PassedOnAndBetter();
    toldTo(x, text.toString(), 24);
    C.due("MONTH", x.count(2), 24);
    // The 97th does not come: 24 STATEMENTS all the same.
    x = new PassedOnAndBetter();
    toldTo(x, text + "x", 24);
    C.due("MONTH", x.count(2), 24);
    C.due("one was refused", x.count(16), 1);
    told(text.substring(0, 95), -1095);
    told(text.substring(0, 95) + ":", -1095);
    told(text.substring(0, 92) + "m61;", -2092);
    told(text.substring(0, 92) + "f004", -1096);
  }

  private static void friendsTold() {
    for (int kind = 0; kind <= 9; kind++) {
      told("f" + kind + "040;", kind <= 5 ? 1 : -2000);
    }
    PassedOnAndBetter x = new PassedOnAndBetter();
    toldTo(x, "f0001;f5999;", 2);
    C.due("FIGURE 0", x.friendOf(0, 1), 0);
    C.due("DOOR 1", x.friendOf(0, 2), 1);
    C.due("KIND 5", x.friendOf(1, 0), 5);
    C.due("FIGURE 9", x.friendOf(1, 1), 9);
    C.due("DOOR 99", x.friendOf(1, 2), 99);
    C.due("NEXT none", x.friendOf(1, 3), -9);
    told("f0000;", -2000);
    toldTo(x, "f0040;f0040;f0040;f0040;", 4);
    C.due("6 FRIENDS", x.count(0), 6);
    toldTo(x, "f0040;", -2000);
    toldTo(x, "f9000;", -2000);
    told("f0040;f0040;f0040;f0040;f0040;f0040;", 6);
    told("f0040;f0040;f0040;f0040;f0040;f0040;f0040;", -2036);
  }

  private static void nextsTold() {
    told("n01;", -2000);
    PassedOnAndBetter x = Made.lineOfPoor(6, 0);
    toldTo(x, "n50;", 1);
    C.due("NEXT", x.friendOf(5, 3), 0);
    toldTo(x, "n05;", 1);
    C.due("another NEXT", x.friendOf(0, 3), 5);
    toldTo(x, "n05;", 1);
    C.due("told again, not", x.friendOf(0, 3), -9);
    toldTo(x, "n06;", -2000);
    toldTo(x, "n60;", -2000);
    toldTo(x, "n09;", -2000);
    toldTo(x, "n99;", -2000);
    toldTo(x, "n00;", -2000);
    toldTo(x, "n55;", -2000);
    told("f0040;n00;", -2006);
    told("f0040;n01;", -2006);
    told("f0040;f0040;n01;", 3);
  }

  private static void doorsTold() {
    told("d040;", -2000);
    PassedOnAndBetter x = Made.lineOfPoor(6, 0);
    toldTo(x, "d501;", 1);
    C.due("DOOR 1", x.friendOf(5, 2), 1);
    toldTo(x, "d599;", 1);
    C.due("DOOR 99", x.friendOf(5, 2), 99);
    toldTo(x, "d500;", -2000);
    toldTo(x, "d640;", -2000);
    toldTo(x, "d940;", -2000);
    C.due("DOOR 99", x.friendOf(5, 2), 99);
  }

  private static void giftsTold() {
    told("g05080;", -2000);
    PassedOnAndBetter x = Made.lineOfPoor(6, 0);
    toldTo(x, "g00015;g99990;", 2);
    C.due("WORTH 0", x.giftOf(0, 0), 0);
    C.due("SIZE 1", x.giftOf(0, 1), 1);
    C.due("with 5", x.giftOf(0, 2), 5);
    C.due("WORTH 99", x.giftOf(1, 0), 99);
    C.due("SIZE 99", x.giftOf(1, 1), 99);
    C.due("with 0", x.giftOf(1, 2), 0);
    toldTo(x, "g05000;", -2000);
    toldTo(x, "g05086;", -2000);
    toldTo(x, "g05089;", -2000);
    toldTo(x, "g05080;g05080;g05080;", -2014);
    toldTo(x, "g05080;g05080;", 2);
    C.due("4 GIFTS", x.count(1), 4);
    toldTo(x, "g05080;", -2000);
    toldTo(x, "g00000;", -2000);
  }

  private static void handsTold() {
    told("h00;", -2000);
    told("f0040;h00;", -2006);
    PassedOnAndBetter x = Made.lineOfPoor(6, 1);
    toldTo(x, "g05080;g05080;g05080;g05080;", 4);
    toldTo(x, "m01;h35;", 2);
    C.due("with 5", x.giftOf(3, 2), 5);
    C.due("KEPT 0", x.giftOf(3, 3), 0);
    C.due("HANDS stay", x.giftOf(3, 5), 1);
    toldTo(x, "m01;", 1);
    C.due("KEPT 1", x.giftOf(3, 3), 1);
    C.due("BETTERED", x.giftOf(3, 4), 1);
    toldTo(x, "h35;", 1);
    C.due("KEPT 0, with the same one", x.giftOf(3, 3), 0);
    C.due("not BETTERED, with the same one", x.giftOf(3, 4), 0);
    toldTo(x, "h36;", -2000);
    toldTo(x, "h39;", -2000);
    toldTo(x, "h45;", -2000);
    toldTo(x, "h95;", -2000);
  }

  private static void monthsTold() {
    told("m00;", -2000);
    told("m01;", 1);
    told("m60;", 1);
    told("m61;", -2000);
    told("m99;", -2000);
    PassedOnAndBetter x = new PassedOnAndBetter();
    toldTo(x, "m60;m60;m60;m60;m60;m60;m60;m60;m60;m60;m60;m60;m60;m60;m60;m38;", 16);
    C.due("MONTH", x.count(2), 938);
    toldTo(x, "m60;", 1);
    toldTo(x, "m02;", -2000);
    toldTo(x, "m01;m01;", -2004);
    C.due("MONTH", x.count(2), 998);
    toldTo(x, "m01;", 1);
    C.due("MONTH", x.count(2), 999);
    toldTo(x, "m01;", -2000);
    toldTo(x, "f0040;m01;", -2006);
    C.due("FRIENDS", x.count(0), 0);
  }

  private static void behindAllAheadOfIt() {
    told("f0040;f0040;n01;d150;g05080;h01;m12;", 7);
    told("n01;f0040;f0040;", -2000);
    told("f0040;n01;f0040;", -2006);
    told("d040;f0040;", -2000);
    told("f0040;h00;g05080;", -2006);
    told("f0040;g05081;f0040;", -2006);
    told("m60;m60;m60;m60;m60;m60;m60;m60;m60;m60;m60;m60;m60;m60;m60;m60;m40;m39;", -2064);
    told("m60;m60;m60;m60;m60;m60;m60;m60;m60;m60;m60;m60;m60;m60;m60;m60;m39;", 17);
  }

  private static PassedOnAndBetter after(PassedOnAndBetter x, String text) {
    Made.tell(x, text);
    x.circle();
    return x;
  }

  /** What was made, its letters told and gone. */
  private static PassedOnAndBetter withoutLetters(PassedOnAndBetter x) {
    x.circle();
    return x;
  }

  private static void aFaultLeavesAllButTheLetters() {
    String[] faults = {
      "", "x", "f0040;n0", "m60;m60;f0", "f6040;", "f0040;n01;d001;g99990;h02;m60;n00;", "h00;m00;",
      "f0040;f0040;f0040;f0040;f0040;f0040;f0040;", "n01;n12;d150;d000;", "m10;h21;h41;"
    };
    for (String text : faults) {
      T.alike("\"" + text + "\"", () -> withoutLetters(Made.some()),
          () -> after(withoutLetters(Made.some()), text));
      T.alike("\"" + text + "\" of nobody", Made::nobody, () -> after(Made.nobody(), text));
      T.alike("\"" + text + "\" of all", () -> withoutLetters(Made.full()),
          () -> after(withoutLetters(Made.full()), text + "m01;"));
    }
    C.due("the three letters lack one", Made.some().circle(), -1003);
    C.due("24 STATEMENTS too late", Made.full().circle(), -2000);
  }

  /** An image that is restored leaves nothing to be TAKEN BACK, as a CIRCLE does. */
  private static PassedOnAndBetter imaged(PassedOnAndBetter x) {
    x.image();
    x.restore();
    return x;
  }

  private static void withoutFaultAllOfItComes() {
    T.alike("as calls", () -> imaged(after(Made.nobody(), "f5940;f2312;n01;n10;g07081;m13;h00;d144;m02;")),
        () -> {
          PassedOnAndBetter x = Made.nobody();
          x.friend(5, 9, 40);
          x.friend(2, 3, 12);
          x.nexts(0, 1);
          x.nexts(1, 0);
          x.gift(1, 7, 8);
          x.months(13);
          x.hands(0, 0);
          x.doors(1, 44);
          x.months(2);
          return imaged(x);
        });
    PassedOnAndBetter x = Made.some();
    C.due("\"n01\" goes on as \"n01;m01;\"", answer(x, ";m01;"), 2);
    C.due("NEXT of 0, told again", x.friendOf(0, 3), -9);
    C.due("MONTH", x.count(2), 8);
    C.due("letters", x.count(6), 0);
    C.due("the ROW stays", x.count(7), 2);
    C.due("the IMAGE stays", x.restore(), 5);
  }

  private static void noneIsLeftToBeTakenBack() {
    String[] texts = {"f0040;", "n01;", "d140;", "g05080;", "h00;", "m01;"};
    for (String text : texts) {
      PassedOnAndBetter x = withoutLetters(Made.some());
      C.due("TAKEN BACK could be", x.count(8), 4);
      toldTo(x, text, 1);
      C.due("behind \"" + text + "\" none is TAKEN BACK", x.back(), -3);
      x = withoutLetters(Made.some());
      toldTo(x, text + "n33;", -2000 - text.length());
      C.due("behind a FAULT it is", x.back(), 3);
    }
  }

  /** Neither of a text that came to a FAULT nor of a question is anything left in later ones. */
  private static void nothingOfAFaultStaysInMind() {
    PassedOnAndBetter x = new PassedOnAndBetter();
    toldTo(x, "f5940;f5940;n01;n10;g50390;m09;d199;d042;m02;n00;", -2045);
    toldTo(x, "f0001;g01020;", 2);
    C.due("NEXT none", x.friendOf(0, 3), -9);
    int[] first = {1, 2, 0, 0, 0, 0};
    for (int what = 0; what <= 5; what++) {
      C.due("a GIFT at first, " + what, x.giftOf(0, what), first[what]);
    }
    x = new PassedOnAndBetter();
    x.image();
    x.friend(5, 9, 40);
    x.friend(5, 9, 40);
    C.due("adding twice is thought of last", x.two(0, 1, 60), 0);
    x.restore();
    toldTo(x, "f5940;f5940;g05080;g05081;m01;", 5);
    C.due("added once", x.giftOf(0, 0), 10);
    C.due("added once", x.giftOf(1, 0), 10);
  }
}
