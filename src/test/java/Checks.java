/** What the tests share: telling answers that are not due, and telling letters. */
final class Checks {
  private int made = 0;
  private int wrong = 0;

  void due(String call, long got, long want) {
    made++;
    if (got != want) {
      wrong++;
      System.out.println(call + " answered " + got + ", due is " + want);
    }
  }

  void holds(String what, boolean so) {
    due(what, so ? 1 : 0, 1);
  }

  /** Each answer of a row of calls, told apart by its place. */
  void allDue(String calls, long[] got, long... want) {
    due(calls + ": how many answers", got.length, want.length);
    for (int i = 0; i < Math.min(got.length, want.length); i++) {
      due(calls + " [" + i + "]", got[i], want[i]);
    }
  }

  /** Feeds a text and answers what circle() answers to it. */
  static int tell(PassedOnAndBetter x, String text) {
    for (int i = 0; i < text.length(); i++) {
      x.feed(text.charAt(i));
    }
    return x.circle();
  }

  static void rows(PassedOnAndBetter x, int... numbers) {
    x.clear();
    for (int number : numbers) {
      x.row(number);
    }
  }

  void end() {
    System.out.println((made - wrong) + " answers as due, " + wrong + " not");
    if (wrong != 0 || made == 0) {
      System.exit(1);
    }
  }
}
