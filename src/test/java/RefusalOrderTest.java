import java.util.Arrays;
import java.util.LinkedHashMap;
import java.util.LinkedHashSet;
import java.util.Map;
import java.util.Set;

/**
 * Which REFUSAL comes first: each call with each of its arguments at, below and above its bounds,
 * all of them together, with nobody, some and all full. What is due is looked up in a table of what
 * each promise says, in its order.
 */
final class RefusalOrderTest {
  private static final Checks C = new Checks();
  /** After so many a new object is made: each takes 13 calls of its 512, the making some 150. */
  private static final int REFUSED_OF_ONE = 27;
  private static final int[] REFUSALS = {-1, -2, -3, -4, -5, -6};

  /**
   * The REFUSALS of each call, the first first, by ";". F, G and A with an argument's place: it is a
   * FRIEND, a GIFT, a FRIEND or -1; "=": the first two are one; "w 1 7": a what of 0 .. 7 in place 1;
   * "below 1 0", "above 1 60": the least and the greatest of place 1; the rest is looked at now.
   */
  private static final String[][] TABLE = {
    {"feed", "-4 below 0 0; -6 above 0 255; -6 letters"},
    {"circle", ""},
    {"friendOf", "-1 F 0; -2 w 1 7"},
    {"giftOf", "-1 G 0; -2 w 1 5"},
    {"friend", "-2 w 0 5; -4 below 1 0; -4 below 2 1; -6 above 1 9; -6 above 2 99; -6 friends"},
    {"gift", "-1 F 0; -4 below 1 0; -4 below 2 1; -6 above 1 99; -6 above 2 99; -6 gifts"},
    {"nexts", "-1 F 0; -1 F 1; -1 ="},
    {"doors", "-1 F 0; -4 below 1 1; -6 above 1 99"},
    {"hands", "-1 G 0; -1 F 1"},
    {"months", "-4 below 0 1; -6 above 0 60; -6 month"},
    {"back", "-3 past"},
    {"behind", "-1 G 0; -4 below 1 0; -6 above 1 60; -2 w 2 3"},
    {"then", "-1 A 0; -4 below 1 0; -6 above 1 60"},
    {"given", "-1 G 0; -2 w 1 1"},
    {"comes", "-1 G 0; -1 F 1"},
    {"sticks", ""},
    {"bestStart", "-1 G 0; -4 below 1 0; -6 above 1 60; -2 w 2 1"},
    {"bestNext", "-1 F 0; -4 below 1 0; -6 above 1 60; -2 w 2 1"},
    {"doorsFor", "-1 G 0; -1 F 1; -4 below 2 0; -6 above 2 60"},
    {"doorWanted", "-1 F 0; -4 below 1 0; -6 above 1 60; -2 w 2 1"},
    {"passedOver", "-4 below 0 0; -6 above 0 60"},
    {"chain", "-1 F 0; -2 w 1 1"},
    {"circles", ""},
    {"way", "-1 F 0; -1 F 1; -1 ="},
    {"whatItWas", "-1 G 0; -2 w 1 2"},
    {"whoHad", "-1 G 0; -2 w 1 1"},
    {"two", "-1 F 0; -1 F 1; -1 =; -4 below 2 0; -6 above 2 60"},
    {"lost", "-1 G 0; -1 F 1; -4 below 2 0; -4 below 3 2; -6 above 2 8; -6 above 3 20; -2 w 4 1"},
    {"added", "-1 A 0; -4 below 1 0; -6 above 1 60"},
    {"dearest", "-2 w 0 1"},
    {"tooLarge", "-1 G 0"},
    {"hasty", "-2 w 0 1"},
    {"mean", "-2 w 0 1"},
    {"meet", "-1 G 0; -1 G 1; -1 ="},
    {"bare", "-4 below 0 0; -6 above 0 60"},
    {"year", ""},
    {"row", "-4 below 0 0; -6 above 0 99; -6 numbers"},
    {"judge", ""},
    {"clear", ""},
    {"lots", "-4 below 0 1; -6 above 0 20; -2 w 2 1"},
    {"image", ""},
    {"restore", "-3 image"},
    {"count", ""}
  };

  /** What the table looks up of how an object was made: FRIENDS, GIFTS, MONTH, and four bits. */
  private static final Map<String, int[]> MADE = new LinkedHashMap<>();

  static {
    MADE.put("nobody", new int[] {0, 0, 0, 0, 0, 0, 0});
    MADE.put("some", new int[] {3, 2, 7, 0, 0, 1, 1});
    MADE.put("full", new int[] {6, 4, 999, 1, 1, 1, 1});
  }

  private static PassedOnAndBetter x;
  private static int left = 0;

  private RefusalOrderTest() {}

  public static void main(String[] args) {
    for (String made : MADE.keySet()) {
      for (String[] line : TABLE) {
        left = 0;
        all(made, line[0], line[1].isEmpty() ? new String[0] : line[1].split("; "));
      }
    }
    C.end();
  }

  private static PassedOnAndBetter make(String made) {
    switch (made) {
      case "nobody": return Made.nobody();
      case "some": return Made.some();
      default: return Made.full();
    }
  }

  private static void all(String made, String name, String[] rules) {
    int many = Twins.arguments(name);
    int[][] values = new int[many][];
    int calls = 1;
    for (int i = 0; i < many; i++) {
      values[i] = edges(made, rules, i, many);
      calls *= values[i].length;
    }
    for (int c = 0; c < calls; c++) {
      int[] a = new int[many];
      int rest = c;
      for (int i = 0; i < many; i++) {
        a[i] = values[i][rest % values[i].length];
        rest /= values[i].length;
      }
      one(made, name, rules, a);
    }
  }

  /** The values of an argument at and beside its bounds, of many arguments the far ones not. */
  private static int[] edges(String made, String[] rules, int place, int many) {
    Set<Integer> found = new LinkedHashSet<>();
    if (many <= 3) {
      found.addAll(Set.of(Integer.MIN_VALUE, -2, Integer.MAX_VALUE));
    }
    found.add(-1);
    found.add(0);
    for (String rule : rules) {
      String[] part = rule.split(" ");
      if (part.length > 2 && Integer.parseInt(part[2]) == place) {
        int bound = boundOf(made, part);
        found.add(bound - 1);
        found.add(bound);
        found.add(bound + 1);
      }
    }
    return found.stream().mapToInt(v -> v).toArray();
  }

  private static int boundOf(String made, String[] part) {
    switch (part[1]) {
      case "F": case "A": return MADE.get(made)[0] - 1;
      case "G": return MADE.get(made)[1] - 1;
      default: return Integer.parseInt(part[3]);
    }
  }

  private static void one(String made, String name, String[] rules, int[] a) {
    if (left == 0) {
      x = make(made);
      left = REFUSED_OF_ONE;
    }
    int number = 0;
    for (int i = 0; i < rules.length && number == 0; i++) {
      number = isBroken(made, rules[i].split(" "), a) ? Integer.parseInt(rules[i].split(" ")[0]) : 0;
    }
    int[] before = counts();
    long answer = Twins.call(x, name, a);
    int[] after = counts();
    String label = made + ": " + name + Arrays.toString(a);
    if (number != 0) {
      C.due(label, answer, Twins.told(name, number));
      before[-number]++;
    } else if (!name.equals("circle")) {
      C.holds(label + " is not refused: " + answer, answer >= 0 && answer < Twins.told("mean", -1)
          || answer == -9);
    }
    C.holds(label + " is counted as it is due", Arrays.equals(before, after));
    // What is not refused may have changed something that the table looks up.
    left = number == 0 ? 0 : left - 1;
  }

  private static int[] counts() {
    int[] all = new int[7];
    for (int number : REFUSALS) {
      all[-number] = x.count(10 - number);
    }
    return all;
  }

  private static boolean isBroken(String made, String[] part, int[] a) {
    int[] now = MADE.get(made);
    switch (part[1]) {
      case "F": return isNot(a[place(part)], 0, now[0] - 1);
      case "A": return isNot(a[place(part)], -1, now[0] - 1);
      case "G": return isNot(a[place(part)], 0, now[1] - 1);
      case "=": return a[0] == a[1];
      case "w": return isNot(a[place(part)], 0, Integer.parseInt(part[3]));
      case "below": return a[place(part)] < Integer.parseInt(part[3]);
      case "above": return a[place(part)] > Integer.parseInt(part[3]);
      case "friends": return now[0] == 6;
      case "gifts": return now[1] == 4;
      case "month": return now[2] + a[0] > 999;
      case "letters": return now[3] == 1;
      case "numbers": return now[4] == 1;
      case "past": return now[5] == 0;
      case "image": return now[6] == 0;
      default: throw new IllegalStateException(part[1]);
    }
  }

  private static int place(String[] part) {
    return Integer.parseInt(part[2]);
  }

  private static boolean isNot(int v, int least, int most) {
    return v < least || v > most;
  }
}
