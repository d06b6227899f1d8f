import java.io.File;
import java.io.PrintWriter;
import java.io.StringWriter;
import java.util.ArrayList;
import java.util.HashMap;
import java.util.List;
import java.util.Map;
import java.util.spi.ToolProvider;
import java.util.regex.Matcher;
import java.util.regex.Pattern;

/**
 * How deep calls go, the library's among them, and how long methods are, as LANGUAGE.md limits both:
 * looked up in the compiled classes, as javap (it comes with javac) tells them.
 */
final class DepthTest {
  private static final Checks C = new Checks();
  private static final int MOST_DEEP = 8;
  private static final int MOST_LINES = 60;

  private static final Pattern CLASS = Pattern.compile("(?:\\w+ )*class ([\\w$]+) .*");
  private static final Pattern METHOD = Pattern.compile("  (?:[\\w$.\\[\\]]+ )*([\\w$.]+)\\(.*\\);");
  private static final Pattern CALL =
      Pattern.compile(".*: invoke\\w+ .*// (?:Interface)?Method ([^:]+):.*");
  private static final Pattern LINE = Pattern.compile(" +line (\\d+): \\d+");

  private static final Map<String, List<String>> CALLS = new HashMap<>();
  private static final Map<String, int[]> LINES = new HashMap<>();
  private static final Map<String, Integer> DEPTHS = new HashMap<>();

  private DepthTest() {}

  public static void main(String[] args) {
    ToolProvider tool = ToolProvider.findFirst("javap").orElse(null);
    if (tool == null) {
      System.out.println("this Java has no javap: nothing is looked up");
      return;
    }
    read(toldBy(tool));
    C.holds("methods found: " + CALLS.size(), CALLS.size() > 43);
    for (String method : CALLS.keySet()) {
      int deep = depth(method, new ArrayList<>());
      C.holds(method + " goes " + deep + " deep", deep <= MOST_DEEP);
      int[] ends = LINES.getOrDefault(method, new int[2]);
      C.holds(method + " from line " + ends[0] + " to " + ends[1],
          ends[1] - ends[0] < MOST_LINES);
    }
    C.holds("a path of circle() is seen", depth("PassedOnAndBetter.circle", new ArrayList<>()) > 5);
    C.end();
  }

  /** All that javap tells of the class and of those inside it. */
  private static String toldBy(ToolProvider tool) {
    String path = PassedOnAndBetter.class.getResource("PassedOnAndBetter.class").getPath();
    List<String> asked = new ArrayList<>(List.of("-c", "-p", "-l"));
    for (File file : new File(path).getParentFile().listFiles()) {
      if (file.getName().matches("PassedOnAndBetter(\\$\\w+)?\\.class")) {
        asked.add(file.getPath());
      }
    }
    StringWriter told = new StringWriter();
    PrintWriter out = new PrintWriter(told);
    tool.run(out, out, asked.toArray(new String[0]));
    out.flush();
    return told.toString();
  }

  private static void read(String told) {
    String inside = "";
    String method = "";
    for (String line : told.split("\r?\n")) {
      Matcher m = CLASS.matcher(line);
      if (m.matches()) {
        inside = m.group(1);
        continue;
      }
      m = METHOD.matcher(line);
      if (m.matches()) {
        boolean makes = m.group(1).equals(inside);
        method = inside + "." + (makes ? "\"<init>\"" : m.group(1));
        CALLS.put(method, new ArrayList<>());
        continue;
      }
      m = CALL.matcher(line);
      if (m.matches()) {
        String called = m.group(1);
        CALLS.get(method).add(called.contains(".") ? called : inside + "." + called);
      }
      m = LINE.matcher(line);
      if (m.matches()) {
        int at = Integer.parseInt(m.group(1));
        int[] ends = LINES.computeIfAbsent(method, any -> new int[] {at, at});
        ends[0] = Math.min(ends[0], at);
        ends[1] = Math.max(ends[1], at);
      }
    }
  }

  /** How many calls stand open at once at most, this one among them. */
  private static int depth(String method, List<String> open) {
    if (open.contains(method)) {
      C.holds(method + " doesn't come again in itself: " + open, false);
      return 0;
    }
    Integer known = DEPTHS.get(method);
    if (known != null) {
      return known;
    }
    open.add(method);
    int most = 0;
    for (String called : CALLS.getOrDefault(method, List.of())) {
      most = Math.max(most, depth(called, open));
    }
    open.remove(method);
    DEPTHS.put(method, most + 1);
    return most + 1;
  }
}
