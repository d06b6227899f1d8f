import java.math.BigInteger;
import java.util.ArrayDeque;
import java.util.ArrayList;
import java.util.Arrays;
import java.util.Deque;
import java.util.List;
import java.util.function.IntPredicate;
import java.util.function.IntUnaryOperator;
import java.util.regex.Matcher;
import java.util.regex.Pattern;

/**
 * A second reading of the document, written in another way: GIFTS never touch one another, so each
 * question looks at one GIFT's trace of months, made of records that never change.
 */
final class Oracle {
  record Friend(int kind, int figure, int door, int next) {
    int waits() {
      return new int[] {12 - figure, 12, 6, 3, 11, 1}[kind];
    }

    int adds() {
      return new int[] {figure + 1, 1, 5, 2, 1 + figure, (figure + 1) / 2}[kind];
    }

    int swells() {
      return new int[] {figure / 2, 0, figure, -3, 4, Math.min(2, figure / 2)}[kind];
    }

    Friend withNext(int n) {
      return new Friend(kind, figure, door, n);
    }

    Friend withDoor(int d) {
      return new Friend(kind, figure, d, next);
    }
  }

  record Gift(int worth, int size, int friend, int kept, boolean bettered, int hands) {
    Gift at(int f) {
      return new Gift(worth, size, f, 0, false, hands);
    }

    Gift keptFor(int k) {
      return new Gift(worth, size, friend, k, bettered, hands);
    }
  }

  record World(List<Friend> friends, List<Gift> gifts, int month) {}

  private World w = new World(List.of(), List.of(), 0);
  private World image = null;
  private final Deque<World> past = new ArrayDeque<>();
  private final StringBuilder letters = new StringBuilder();
  private final List<Integer> row = new ArrayList<>();
  private final int[] refused = new int[7];

  // ---- the months

  static Gift month(List<Friend> fs, Gift g, IntUnaryOperator times) {
    Friend f = fs.get(g.friend);
    int kept = Math.min(99, g.kept + 1);
    if (kept < f.waits()) {
      return g.keptFor(kept);
    }
    int worth = g.worth;
    int size = g.size;
    if (!g.bettered) {
      worth = Math.min(999, worth + f.adds() * times.applyAsInt(g.friend));
      size = Math.min(999, Math.max(1, size + f.swells()));
    }
    if (f.next >= 0 && size <= fs.get(f.next).door) {
      return new Gift(worth, size, f.next, 0, false, Math.min(99, g.hands + 1));
    }
    return new Gift(worth, size, g.friend, kept, true, g.hands);
  }

  static List<Gift> trace(List<Friend> fs, Gift g, int n, IntUnaryOperator times) {
    List<Gift> all = new ArrayList<>();
    all.add(g);
    for (int i = 0; i < n; i++) {
      g = month(fs, g, times);
      all.add(g);
    }
    return all;
  }

  static List<Gift> trace(List<Friend> fs, Gift g, int n) {
    return trace(fs, g, n, f -> 1);
  }

  static Gift after(List<Friend> fs, Gift g, int n) {
    return trace(fs, g, n).get(n);
  }

  static List<Gift> allAfter(List<Friend> fs, List<Gift> gs, int n) {
    return gs.stream().map(g -> after(fs, g, n)).toList();
  }

  static int worth(List<Gift> gs) {
    return gs.stream().mapToInt(Gift::worth).sum();
  }

  static int hands(List<Gift> gs) {
    return gs.stream().mapToInt(Gift::hands).sum();
  }

  static <T> List<T> put(List<T> list, int i, T t) {
    List<T> copy = new ArrayList<>(list);
    copy.set(i, t);
    return List.copyOf(copy);
  }

  static <T> List<T> more(List<T> list, T t) {
    List<T> copy = new ArrayList<>(list);
    copy.add(t);
    return List.copyOf(copy);
  }

  /** The first of 0 .. n for which it is so; -9. */
  static int firstOf(int from, int n, IntPredicate so) {
    for (int i = from; i <= n; i++) {
      if (so.test(i)) {
        return i;
      }
    }
    return -9;
  }

  static int bits(int n, IntPredicate so) {
    int b = 0;
    for (int i = 0; i < n; i++) {
      b += so.test(i) ? 1 << i : 0;
    }
    return b;
  }

  /** The least of 0 .. n-1 with the most; {-9, -1} of none. */
  static int[] best(int n, IntUnaryOperator value) {
    int[] found = {-9, Integer.MIN_VALUE};
    for (int i = 0; i < n; i++) {
      int v = value.applyAsInt(i);
      if (v > found[1]) {
        found = new int[] {i, v};
      }
    }
    return found;
  }

  // ---- refusals

  private int no(int code) {
    refused[-code]++;
    return code;
  }

  private boolean isF(int f) {
    return f >= 0 && f < w.friends.size();
  }

  private boolean isG(int g) {
    return g >= 0 && g < w.gifts.size();
  }

  /** The first code whose condition holds, 0 of none; codes and conditions take turns. */
  private static int firstNo(Object... rules) {
    for (int i = 0; i < rules.length; i += 2) {
      if ((Boolean) rules[i + 1]) {
        return (Integer) rules[i];
      }
    }
    return 0;
  }

  // ---- the calls

  long call(String name, int[] a) {
    long answer = answer(name, a);
    if ((name.equals("lost") || name.equals("mean")) && answer < 0) {
      return 4000000000000000000L - answer;
    }
    return answer;
  }

  private long answer(String name, int[] a) {
    int no = refusal(name, a);
    if (no != 0) {
      return no(no);
    }
    List<Friend> fs = w.friends;
    List<Gift> gs = w.gifts;
    switch (name) {
      case "feed": letters.append((char) a[0]); return letters.length();
      case "circle": return circle();
      case "friendOf": return friendOf(a[0], a[1]);
      case "giftOf": {
        Gift g = gs.get(a[0]);
        return new int[] {g.worth, g.size, g.friend, g.kept, g.bettered ? 1 : 0, g.hands}[a[1]];
      }
      case "friend":
        past.clear();
        w = new World(more(fs, new Friend(a[0], a[1], a[2], -1)), gs, w.month);
        return fs.size();
      case "gift":
        past.clear();
        w = new World(fs, more(gs, new Gift(a[1], a[2], a[0], 0, false, 0)), w.month);
        return gs.size();
      case "nexts": {
        remember();
        boolean was = fs.get(a[0]).next == a[1];
        w = new World(put(fs, a[0], fs.get(a[0]).withNext(was ? -1 : a[1])), gs, w.month);
        return was ? 0 : 1;
      }
      case "doors":
        remember();
        w = new World(put(fs, a[0], fs.get(a[0]).withDoor(a[1])), gs, w.month);
        return fs.get(a[0]).door;
      case "hands":
        remember();
        w = new World(fs, put(gs, a[0], gs.get(a[0]).at(a[1])), w.month);
        return gs.get(a[0]).friend;
      case "months":
        remember();
        w = new World(fs, allAfter(fs, gs, a[0]), w.month + a[0]);
        return worth(w.gifts);
      case "back": w = past.removeLast(); return past.size();
      case "image": image = w; return w.month;
      case "restore": w = image; past.clear(); return w.month;
      case "row": row.add(a[0]); return row.size();
      case "clear": { int had = row.size(); row.clear(); return had; }
      case "judge": {
        int first = firstOf(0, row.size() - 1, i -> !isG(i) || gs.get(i).friend != row.get(i));
        row.clear();
        return first;
      }
      case "count": return count(a[0]);
      default: return looked(name, a, fs, gs);
    }
  }

  private long looked(String name, int[] a, List<Friend> fs, List<Gift> gs) {
    int nf = fs.size();
    switch (name) {
      case "behind": {
        Gift g = after(fs, gs.get(a[0]), a[1]);
        return new int[] {g.friend, g.worth, g.size, g.hands}[a[2]];
      }
      case "then": {
        List<Gift> then = allAfter(fs, gs, a[1]);
        return a[0] == -1 ? worth(then) : then.stream().filter(g -> g.friend == a[0]).count();
      }
      case "given": {
        List<Gift> t = trace(fs, gs.get(a[0]), 60);
        int away = firstOf(1, 60, i -> t.get(i).friend != t.get(0).friend);
        if (a[1] == 0 || away == -9) {
          return away;
        }
        return firstOf(away, 60, i -> t.get(i).friend == t.get(0).friend);
      }
      case "comes": {
        List<Gift> t = trace(fs, gs.get(a[0]), 60);
        return firstOf(0, 60, i -> t.get(i).friend == a[1]);
      }
      case "sticks":
        return bits(gs.size(), i -> {
          Gift g = gs.get(i);
          return g.kept + 1 >= fs.get(g.friend).waits() && month(fs, g, f -> 1).friend == g.friend;
        });
      case "bestStart":
        return best(nf, f -> after(fs, gs.get(a[0]).at(f), a[1]).worth)[a[2]];
      case "bestNext": {
        int[] b = best(nf + 1, i -> i == a[0] ? -1
            : worth(allAfter(put(fs, a[0], fs.get(a[0]).withNext(i == nf ? -1 : i)), gs, a[1])));
        return a[2] == 1 ? b[1] : b[0] == nf ? 9 : b[0];
      }
      case "doorsFor": return doorsFor(gs.get(a[0]), a[1], a[2]);
      case "doorWanted": {
        int[] b = best(99, d -> hands(allAfter(put(fs, a[0], fs.get(a[0]).withDoor(d + 1)), gs, a[1])));
        return a[2] == 0 ? b[0] + 1 : b[1];
      }
      case "passedOver":
        return nf < 2 ? -9 : best(nf, f -> worth(passedOver(f, a[0])))[0];
      case "chain": {
        List<Integer> c = chain(a[0]);
        int last = fs.get(c.get(c.size() - 1)).next;
        return a[1] == 0 ? c.size() : last < 0 ? 0 : 1;
      }
      case "circles":
        return Integer.bitCount(bits(nf, f -> {
          List<Integer> c = chain(f);
          return fs.get(c.get(c.size() - 1)).next == f;
        }));
      case "way": return chain(a[0]).indexOf(a[1]) < 0 ? -9 : chain(a[0]).indexOf(a[1]);
      case "whatItWas": return whatItWas(gs.get(a[0]), a[1]);
      case "whoHad": {
        IntUnaryOperator first = f -> {
          List<Gift> t = trace(fs, f < 0 ? gs.get(a[0]) : gs.get(a[0]).at(f), 12);
          return firstOf(0, row.size() - 1, i -> t.get(i).friend != row.get(i));
        };
        return a[1] == 0 ? first.applyAsInt(-1) : bits(nf, f -> first.applyAsInt(f) == -9);
      }
      case "two": return two(a[0], a[1], a[2]);
      case "lost": return lost(gs.get(a[0]), a[1], a[2], a[3], a[4]);
      case "added": {
        int[] by = added(a[1]);
        if (a[0] >= 0) {
          return by[a[0]];
        }
        return nf == 0 ? 0 : Arrays.stream(by).max().getAsInt() - Arrays.stream(by).min().getAsInt();
      }
      case "dearest": return best(gs.size(), g -> a[0] == 0 ? gs.get(g).worth : gs.get(g).size)[0];
      case "tooLarge": return fs.stream().filter(f -> f.door < gs.get(a[0]).size).count();
      case "hasty": return best(nf, f -> a[0] == 0 ? -fs.get(f).waits() : -fs.get(f).door)[0];
      case "mean": return fraction(worth(gs), Math.max(1, gs.size()), a[0]);
      case "meet":
        return firstOf(0, 60, n ->
            after(fs, gs.get(a[0]), n).friend == after(fs, gs.get(a[1]), n).friend);
      case "bare":
        return bits(nf, f -> gs.stream().noneMatch(
            g -> trace(fs, g, a[0]).stream().anyMatch(t -> t.friend == f)));
      case "year": return worth(allAfter(fs, gs, 12)) - worth(gs);
      case "lots": return lots(a[0], a[1], a[2]);
      default: throw new IllegalStateException(name);
    }
  }

  private int refusal(String name, int[] a) {
    int n = a.length;
    int a0 = n > 0 ? a[0] : 0;
    int a1 = n > 1 ? a[1] : 0;
    int a2 = n > 2 ? a[2] : 0;
    switch (name) {
      case "feed": return firstNo(-4, a0 < 0, -6, a0 > 255 || letters.length() == 96);
      case "friendOf": return firstNo(-1, !isF(a0), -2, a1 < 0 || a1 > 7);
      case "giftOf": return firstNo(-1, !isG(a0), -2, a1 < 0 || a1 > 5);
      case "friend":
        return firstNo(-2, a0 < 0 || a0 > 5, -4, a1 < 0 || a2 < 1,
            -6, a1 > 9 || a2 > 99 || w.friends.size() == 6);
      case "gift":
        return firstNo(-1, !isF(a0), -4, a1 < 0 || a2 < 1,
            -6, a1 > 99 || a2 > 99 || w.gifts.size() == 4);
      case "nexts": case "way": return firstNo(-1, !isF(a0) || !isF(a1) || a0 == a1);
      case "doors": return firstNo(-1, !isF(a0), -4, a1 < 1, -6, a1 > 99);
      case "hands": case "comes": return firstNo(-1, !isG(a0) || !isF(a1));
      case "months": return firstNo(-4, a0 < 1, -6, a0 > 60 || w.month + a0 > 999);
      case "back": return firstNo(-3, past.isEmpty());
      case "restore": return firstNo(-3, image == null);
      case "behind": return firstNo(-1, !isG(a0), -4, a1 < 0, -6, a1 > 60, -2, a2 < 0 || a2 > 3);
      case "bestStart": return firstNo(-1, !isG(a0), -4, a1 < 0, -6, a1 > 60, -2, a2 < 0 || a2 > 1);
      case "bestNext": case "doorWanted":
        return firstNo(-1, !isF(a0), -4, a1 < 0, -6, a1 > 60, -2, a2 < 0 || a2 > 1);
      case "then": case "added": return firstNo(-1, a0 != -1 && !isF(a0), -4, a1 < 0, -6, a1 > 60);
      case "given": case "whoHad": return firstNo(-1, !isG(a0), -2, a1 < 0 || a1 > 1);
      case "whatItWas": return firstNo(-1, !isG(a0), -2, a1 < 0 || a1 > 2);
      case "doorsFor": return firstNo(-1, !isG(a0) || !isF(a1), -4, a2 < 0, -6, a2 > 60);
      case "passedOver": case "bare": return firstNo(-4, a0 < 0, -6, a0 > 60);
      case "chain": return firstNo(-1, !isF(a0), -2, a1 < 0 || a1 > 1);
      case "two":
        return firstNo(-1, !isF(a0) || !isF(a1) || a0 == a1, -4, a2 < 0, -6, a2 > 60);
      case "lost":
        return firstNo(-1, !isG(a0) || !isF(a1), -4, a2 < 0 || a[3] < 2,
            -6, a2 > 8 || a[3] > 20, -2, a[4] < 0 || a[4] > 1);
      case "dearest": case "hasty": case "mean": return firstNo(-2, a0 < 0 || a0 > 1);
      case "tooLarge": return firstNo(-1, !isG(a0));
      case "meet": return firstNo(-1, !isG(a0) || !isG(a1) || a0 == a1);
      case "row": return firstNo(-4, a0 < 0, -6, a0 > 99 || row.size() == 12);
      case "lots": return firstNo(-4, a0 < 1, -6, a0 > 20, -2, a2 < 0 || a2 > 1);
      default: return 0;
    }
  }

  private void remember() {
    past.addLast(w);
    if (past.size() > 8) {
      past.removeFirst();
    }
  }

  private int friendOf(int f, int what) {
    Friend it = w.friends.get(f);
    return new int[] {
      it.kind, it.figure, it.door, it.next < 0 ? -9 : it.next, it.waits(), it.adds(),
      Math.max(0, it.swells()), (int) w.gifts.stream().filter(g -> g.friend == f).count()
    }[what];
  }

  private int count(int what) {
    switch (what) {
      case 0: return w.friends.size();
      case 1: return w.gifts.size();
      case 2: return w.month;
      case 3: return worth(w.gifts);
      case 4: return w.gifts.stream().mapToInt(Gift::size).sum();
      case 5: return hands(w.gifts);
      case 6: return letters.length();
      case 7: return row.size();
      case 8: return past.size();
      default: return what >= 11 && what <= 16 ? refused[what - 10] : -9;
    }
  }

  // ---- circles

  private static final String[] FORMS = {"f####;", "n##;", "d###;", "g#####;", "h##;", "m##;"};
  private static final Pattern STATEMENT =
      Pattern.compile("f\\d{4};|n\\d\\d;|d\\d{3};|g\\d{5};|h\\d\\d;|m\\d\\d;");

  /** Whether some row of statements begins with this text. */
  private static boolean canGoOn(String text) {
    Matcher m = STATEMENT.matcher(text);
    int at = 0;
    while (m.find(at) && m.start() == at) {
      at = m.end();
    }
    String rest = text.substring(at);
    return rest.isEmpty() || Arrays.stream(FORMS).anyMatch(f -> begins(f, rest));
  }

  private static boolean begins(String form, String rest) {
    if (rest.length() > form.length()) {
      return false;
    }
    for (int i = 0; i < rest.length(); i++) {
      char c = rest.charAt(i);
      boolean digit = c >= '0' && c <= '9';
      if (form.charAt(i) == '#' ? !digit : form.charAt(i) != c) {
        return false;
      }
    }
    return true;
  }

  private int circle() {
    String text = letters.toString();
    letters.setLength(0);
    for (int i = 0; i < text.length(); i++) {
      if (!canGoOn(text.substring(0, i + 1))) {
        return -1000 - i;
      }
    }
    if (!text.endsWith(";")) {
      return -1000 - text.length();
    }
    Oracle trial = new Oracle();
    trial.w = w;
    int place = 0;
    int statements = 0;
    for (String s : text.substring(0, text.length() - 1).split(";")) {
      if (!trial.statement(s)) {
        return -2000 - place;
      }
      place += s.length() + 1;
      statements++;
    }
    w = trial.w;
    past.clear();
    return statements;
  }

  /** Each STATEMENT is as a call of its own: it must not be refused. */
  private boolean statement(String s) {
    int[] d = s.substring(1).chars().map(c -> c - '0').toArray();
    switch (s.charAt(0)) {
      case 'f': return call("friend", new int[] {d[0], d[1], d[2] * 10 + d[3]}) >= 0;
      case 'n': return call("nexts", d) >= 0;
      case 'd': return call("doors", new int[] {d[0], d[1] * 10 + d[2]}) >= 0;
      case 'g': return call("gift", new int[] {d[4], d[0] * 10 + d[1], d[2] * 10 + d[3]}) >= 0;
      case 'h': return call("hands", d) >= 0;
      default: return call("months", new int[] {d[0] * 10 + d[1]}) >= 0;
    }
  }

  // ---- the harder questions

  private List<Integer> chain(int f) {
    List<Integer> c = new ArrayList<>();
    for (int i = f; i >= 0 && !c.contains(i); i = w.friends.get(i).next) {
      c.add(i);
    }
    return c;
  }

  private int doorsFor(Gift g, int to, int n) {
    List<Integer> sets = new ArrayList<>();
    for (int b = 0; b < 1 << w.friends.size(); b++) {
      sets.add(b);
    }
    sets.sort((x, y) -> Integer.bitCount(x) != Integer.bitCount(y)
        ? Integer.bitCount(x) - Integer.bitCount(y) : x - y);
    for (int b : sets) {
      List<Friend> wide = new ArrayList<>();
      for (int i = 0; i < w.friends.size(); i++) {
        Friend f = w.friends.get(i);
        wide.add((b & 1 << i) != 0 ? f.withDoor(99) : f);
      }
      if (trace(wide, g, n).stream().anyMatch(t -> t.friend == to)) {
        return b;
      }
    }
    return -9;
  }

  private List<Gift> passedOver(int f, int n) {
    int next = w.friends.get(f).next;
    List<Friend> fs = new ArrayList<>();
    for (int i = 0; i < w.friends.size(); i++) {
      Friend q = w.friends.get(i);
      fs.add(q.next != f ? q : q.withNext(next == i ? -1 : next));
    }
    List<Gift> gs =
        w.gifts.stream().map(g -> g.friend == f && next >= 0 ? g.at(next) : g).toList();
    return allAfter(fs, gs, n);
  }

  private int whatItWas(Gift g, int what) {
    Friend f = w.friends.get(g.friend);
    int n = new int[] {6, 10, 13}[what];
    int b = bits(n, v -> {
      Friend other = new Friend(what == 0 ? v : f.kind, what == 1 ? v : f.figure, f.door, f.next);
      List<Gift> t = trace(put(w.friends, g.friend, other), what == 2 ? g.keptFor(v) : g, 12);
      return firstOf(0, row.size() - 1, i -> t.get(i).worth != row.get(i)) == -9;
    });
    return what == 2 ? Integer.bitCount(b) : b;
  }

  private int payOf(int whose, int one, int other, int a, int b, int n) {
    IntUnaryOperator times = f -> f == one ? 1 + a : f == other ? 1 + b : 1;
    return w.gifts.stream().map(g -> trace(w.friends, g, n, times).get(n))
        .filter(g -> g.friend == whose).mapToInt(Gift::worth).sum();
  }

  private int two(int one, int other, int n) {
    for (int a = 0; a <= 1; a++) {
      for (int b = 0; b <= 1; b++) {
        if (payOf(one, one, other, a, b, n) >= payOf(one, one, other, 1 - a, b, n)
            && payOf(other, one, other, a, b, n) >= payOf(other, one, other, a, 1 - b, n)) {
          return 10 * a + b;
        }
      }
    }
    return -9;
  }

  /** By the first month: lost or not, each with what is likely from there. */
  private BigInteger waysTo(Gift g, int friend, int n, int t) {
    if (n == 0) {
      return g.friend == friend ? BigInteger.ONE : BigInteger.ZERO;
    }
    BigInteger lost = waysTo(g.keptFor(Math.min(99, g.kept + 1)), friend, n - 1, t);
    BigInteger not = waysTo(month(w.friends, g, f -> 1), friend, n - 1, t);
    return lost.add(not.multiply(BigInteger.valueOf(t - 1)));
  }

  private long lost(Gift g, int friend, int n, int t, int part) {
    return fraction(waysTo(g, friend, n, t).longValueExact(),
        BigInteger.valueOf(t).pow(n).longValueExact(), part);
  }

  private static long fraction(long above, long below, int part) {
    BigInteger g = BigInteger.valueOf(above).gcd(BigInteger.valueOf(below));
    return (part == 0 ? above : below) / g.longValueExact();
  }

  private int[] added(int n) {
    int[] by = new int[w.friends.size()];
    for (Gift g : w.gifts) {
      List<Gift> t = trace(w.friends, g, n);
      for (int i = 0; i < n; i++) {
        by[t.get(i).friend] += t.get(i + 1).worth - t.get(i).worth;
      }
    }
    return by;
  }

  private int lots(int n, int z, int what) {
    int nf = w.friends.size();
    int sum = 0;
    long seed = z;
    for (int c = 0; c < n; c++) {
      List<Friend> fs = new ArrayList<>();
      for (int i = 0; i < nf; i++) {
        seed = (int) (seed * 1103515245L + 12345L);
        int drawn = (int) ((seed & 0x7fffffffL) / 65536) % nf;
        fs.add(w.friends.get(i).withNext(drawn == i ? -1 : drawn));
      }
      List<Gift> then = allAfter(fs, w.gifts, 24);
      sum += what == 0 ? worth(then) - worth(w.gifts) : hands(then) - hands(w.gifts);
    }
    return sum;
  }
}
