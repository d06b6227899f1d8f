import java.lang.reflect.Method;
import java.lang.reflect.Modifier;
import java.util.Arrays;
import java.util.HashMap;
import java.util.Map;
import java.util.Set;

/**
 * Calls by their names, and what they leave behind: of two objects made alike one gets the call and
 * the other does not, and then all that can be seen of both is held against each other. What can be
 * seen only once (the ROW, the letters, what is TAKEN BACK, THE IMAGE) has twins of its own.
 */
final class Twins {
  /** How an object is made. */
  interface Making {
    PassedOnAndBetter make();
  }

  private static final int VIEWS = 4;
  private static final long LONGS = 4000000000000000000L;
  private static final Map<String, Method> METHODS = new HashMap<>();

  static {
    for (Method m : PassedOnAndBetter.class.getDeclaredMethods()) {
      if (Modifier.isPublic(m.getModifiers())) {
        METHODS.put(m.getName(), m);
      }
    }
  }

  private final Checks checks;
  private final Map<Making, long[][]> untouched = new HashMap<>();

  Twins(Checks checks) {
    this.checks = checks;
  }

  /** All calls of the face. */
  static Set<String> names() {
    return METHODS.keySet();
  }

  static int arguments(String name) {
    return METHODS.get(name).getParameterCount();
  }

  static long call(PassedOnAndBetter x, String name, int... a) {
    try {
      Object[] boxed = Arrays.stream(a).boxed().toArray();
      return ((Number) METHODS.get(name).invoke(x, boxed)).longValue();
    } catch (ReflectiveOperationException e) {
      throw new IllegalStateException(name + Arrays.toString(a), e);
    }
  }

  /** How a refusal is told: by a negative number, of longs by a great one. */
  static long told(String name, int number) {
    return METHODS.get(name).getReturnType() == long.class ? LONGS - number : number;
  }

  /** The call is refused with this number, is counted under it, and changes nothing else. */
  void refused(Making making, int number, String name, int... a) {
    check(making, told(name, number), number, name, a);
  }

  /** The call is answered so, and changes nothing at all. */
  void asked(Making making, long due, String name, int... a) {
    check(making, due, 0, name, a);
  }

  private void check(Making making, long due, int number, String name, int... a) {
    String label = name + Arrays.toString(a);
    long[][] before = untouched.computeIfAbsent(making, Twins::seenAll);
    for (int view = 0; view < VIEWS; view++) {
      PassedOnAndBetter x = making.make();
      checks.due(label, call(x, name, a), due);
      long[] then = seen(x, view);
      if (number != 0) {
        then[-number] -= 1;
      }
      if (!Arrays.equals(then, before[view])) {
        checks.holds(label + " changes nothing else, seen in view " + view + ": "
            + Arrays.toString(before[view]) + " became " + Arrays.toString(then), false);
      }
    }
  }

  /** What was made in two ways is the same in all that can be seen. */
  void alike(String label, Making one, Making other) {
    long[][] first = seenAll(one);
    long[][] second = seenAll(other);
    for (int view = 0; view < VIEWS; view++) {
      checks.holds(label + ", seen in view " + view + ": " + Arrays.toString(first[view]) + " and "
          + Arrays.toString(second[view]), Arrays.equals(first[view], second[view]));
    }
  }

  private static long[][] seenAll(Making making) {
    long[][] all = new long[VIEWS][];
    for (int view = 0; view < VIEWS; view++) {
      all[view] = seen(making.make(), view);
    }
    return all;
  }

  /** The first seven are the REFUSALS, by their numbers. */
  private static long[] seen(PassedOnAndBetter x, int view) {
    Seen s = new Seen();
    s.put(0);
    for (int what = 11; what <= 16; what++) {
      s.put(x.count(what));
    }
    switch (view) {
      case 0: whole(x, s); break;
      case 1: takenBack(x, s); break;
      case 2: s.put(x.restore()); whole(x, s); break;
      default: rowAndLetters(x, s); break;
    }
    return s.all();
  }

  private static void whole(PassedOnAndBetter x, Seen s) {
    for (int what = 0; what <= 8; what++) {
      s.put(x.count(what));
    }
    for (int f = 0; f < x.count(0); f++) {
      for (int what = 0; what <= 7; what++) {
        s.put(x.friendOf(f, what));
      }
    }
    for (int g = 0; g < x.count(1); g++) {
      for (int what = 0; what <= 5; what++) {
        s.put(x.giftOf(g, what));
      }
    }
  }

  private static void takenBack(PassedOnAndBetter x, Seen s) {
    for (int i = 0; i <= 8; i++) {
      s.put(x.back());
      s.put(x.count(2));
      for (int f = 0; f < x.count(0); f++) {
        s.put(x.friendOf(f, 2));
        s.put(x.friendOf(f, 3));
      }
      for (int g = 0; g < x.count(1); g++) {
        s.put(x.giftOf(g, 0));
        s.put(x.giftOf(g, 2));
        s.put(x.giftOf(g, 3));
      }
    }
  }

  /** The ROW by who had it, number for number; the letters by what they are a CIRCLE of. */
  private static void rowAndLetters(PassedOnAndBetter x, Seen s) {
    for (int g = 0; g < x.count(1); g++) {
      for (int what = 0; what <= 2; what++) {
        s.put(x.whatItWas(g, what));
      }
      s.put(x.whoHad(g, 0));
      s.put(x.whoHad(g, 1));
    }
    s.put(x.judge());
    s.put(x.count(7));
    s.put(x.circle());
    whole(x, s);
  }

  /** Numbers as they come. */
  private static final class Seen {
    private long[] numbers = new long[512];
    private int many = 0;

    void put(long number) {
      if (many == numbers.length) {
        numbers = Arrays.copyOf(numbers, 2 * many);
      }
      numbers[many++] = number;
    }

    long[] all() {
      return Arrays.copyOf(numbers, many);
    }
  }
}
