import java.lang.reflect.Method;
import java.util.ArrayList;
import java.util.Arrays;
import java.util.List;

/** Long runs of calls by lot, each answer held against the Oracle's. */
final class AgainstOracleTest {
  private static final int RUNS = 3000;
  private static final int CALLS = 512;

  private static final String[] CHANGES = {
    "friend", "friend", "gift", "gift", "nexts", "nexts", "nexts", "doors", "hands", "months",
    "months", "back", "back", "row", "row", "judge", "clear", "image", "restore", "text",
    "truth", "truth"
  };
  private static final int[] EXTREMES = {
    Integer.MIN_VALUE, Integer.MAX_VALUE, -1, 7, 10, 61, 100, 1000, 256, Integer.MIN_VALUE + 1
  };

  private static long seed = 20261118;
  private static final Checks CHECKS = new Checks();

  private AgainstOracleTest() {}

  private static int draw(int below) {
    seed = seed * 6364136223846793005L + 1442695040888963407L;
    return (int) Math.floorMod(seed >>> 33, (long) below);
  }

  public static void main(String[] args) throws ReflectiveOperationException {
    List<Method> questions = new ArrayList<>();
    for (Method m : PassedOnAndBetter.class.getDeclaredMethods()) {
      if (java.lang.reflect.Modifier.isPublic(m.getModifiers())
          && !Arrays.asList(CHANGES).contains(m.getName()) && !m.getName().equals("feed")) {
        questions.add(m);
      }
    }
    questions.sort((a, b) -> a.getName().compareTo(b.getName()));
    for (int run = 0; run < RUNS; run++) {
      oneRun(run, questions);
    }
    CHECKS.end();
  }

  private static void oneRun(int run, List<Method> questions) throws ReflectiveOperationException {
    PassedOnAndBetter x = new PassedOnAndBetter();
    Oracle oracle = new Oracle();
    boolean oftenRefused = draw(4) == 0;
    boolean late = draw(5) == 0;
    for (int c = 0; c < CALLS; ) {
      if (late && c >= 14) {
        late = false;
        c += manyMonths(run, x, oracle);
      }
      if (draw(3) == 0 || c < 10) {
        String name = CHANGES[draw(c < 10 ? 6 : CHANGES.length)];
        if (name.equals("text")) {
          c += text(run, x, oracle);
        } else if (name.equals("truth")) {
          c += truth(run, x, oracle);
        } else {
          one(run, x, oracle, method(name), oftenRefused);
          c++;
        }
      } else {
        one(run, x, oracle, questions.get(draw(questions.size())), oftenRefused);
        c++;
      }
    }
  }

  /** To MONTH 900 or more, where much is as much as it may be: how many calls. */
  private static int manyMonths(int run, PassedOnAndBetter x, Oracle oracle)
      throws ReflectiveOperationException {
    int turns = 15 + draw(2);
    for (int i = 0; i < turns; i++) {
      held(run, x, oracle, method("months"), new int[] {60});
    }
    return turns;
  }

  private static Method method(String name) {
    for (Method m : PassedOnAndBetter.class.getDeclaredMethods()) {
      if (m.getName().equals(name)) {
        return m;
      }
    }
    throw new IllegalStateException(name);
  }

  private static void one(
      int run, PassedOnAndBetter x, Oracle oracle, Method m, boolean oftenRefused)
      throws ReflectiveOperationException {
    int[] a = new int[m.getParameterCount()];
    for (int i = 0; i < a.length; i++) {
      a[i] = draw(oftenRefused ? 6 : 60) == 0
          ? EXTREMES[draw(EXTREMES.length)] : ordinary(m.getName(), i);
    }
    held(run, x, oracle, m, a);
  }

  private static void held(int run, PassedOnAndBetter x, Oracle oracle, Method m, int[] a)
      throws ReflectiveOperationException {
    Object[] boxed = Arrays.stream(a).boxed().toArray();
    long got = ((Number) m.invoke(x, boxed)).longValue();
    CHECKS.due("run " + run + ": " + m.getName() + Arrays.toString(a), got,
        oracle.call(m.getName(), a));
  }

  private static int ordinary(String name, int i) {
    switch (name + i) {
      case "friend0": return draw(6);
      case "friend1": return draw(10);
      case "friend2": case "doors1": return draw(3) == 0 ? 1 + draw(99) : 1 + draw(30);
      case "gift1": return draw(100);
      case "gift2": return draw(2) == 0 ? 1 + draw(99) : 1 + draw(20);
      case "months0": return 1 + draw(draw(2) == 0 ? 60 : 5);
      case "behind1": case "then1": case "bestStart1": case "bestNext1": case "doorsFor2":
      case "doorWanted1": case "passedOver0": case "two2": case "added1": case "bare0":
        return draw(draw(2) == 0 ? 61 : 13);
      case "behind2": return draw(4);
      case "whatItWas1": return draw(3);
      case "lost2": return draw(9);
      case "lost3": return 2 + draw(19);
      case "row0": return draw(2) == 0 ? draw(6) : draw(100);
      case "lots0": return 1 + draw(20);
      case "lots1": return (int) (seed >>> 17);
      case "count0": return draw(18) - 1;
      case "friendOf1": return draw(8);
      case "giftOf1": return draw(6);
      case "bestStart2": case "bestNext2": case "doorWanted2": case "given1": case "chain1":
      case "whoHad1": case "lost4": case "dearest0": case "hasty0": case "mean0": case "lots2":
        return draw(2);
      default: return draw(6) == 0 ? draw(7) - 1 : draw(4);
    }
  }

  /** A CIRCLE told by lot, mostly as it must be: how many calls it took. */
  private static int text(int run, PassedOnAndBetter x, Oracle oracle)
      throws ReflectiveOperationException {
    StringBuilder text = new StringBuilder();
    int statements = draw(7) + (draw(12) == 0 ? 20 : 0);
    for (int i = 0; i < statements; i++) {
      int digits = new int[] {4, 2, 3, 5, 2, 2}[draw(6)];
      text.append(letterOf(digits));
      for (int d = 0; d < digits; d++) {
        text.append((char) ('0' + (draw(12) == 0 ? draw(10) : draw(5))));
      }
      text.append(';');
    }
    if (draw(3) == 0 && text.length() > 0) {
      text.setLength(text.length() - draw(Math.min(4, text.length() + 1)));
    }
    if (draw(6) == 0 && text.length() > 0) {
      text.setCharAt(draw(text.length()), (char) draw(128));
    }
    for (int i = 0; i < text.length(); i++) {
      held(run, x, oracle, method("feed"), new int[] {text.charAt(i)});
    }
    held(run, x, oracle, method("circle"), new int[0]);
    return text.length() + 1;
  }

  /** A ROW that tells what a GIFT is, or who has it, with at times one lie: how many calls. */
  private static int truth(int run, PassedOnAndBetter x, Oracle oracle)
      throws ReflectiveOperationException {
    int gift = draw(4);
    int what = draw(2);
    int numbers = draw(13);
    int lie = draw(3) == 0 ? draw(13) : 99;
    held(run, x, oracle, method("clear"), new int[0]);
    for (int i = 0; i < numbers; i++) {
      int v = (int) oracle.call("behind", new int[] {gift, i, what});
      x.behind(gift, i, what);
      held(run, x, oracle, method("row"), new int[] {i == lie ? v + 1 : v});
    }
    for (int w = 0; w < 3; w++) {
      held(run, x, oracle, method("whatItWas"), new int[] {gift, w});
      held(run, x, oracle, method("whoHad"), new int[] {gift, w});
    }
    return 2 * numbers + 7;
  }

  private static char letterOf(int digits) {
    switch (digits) {
      case 4: return 'f';
      case 3: return 'd';
      case 5: return 'g';
      default: return "nhm".charAt(draw(3));
    }
  }
}
