import java.io.IOException;
import java.nio.file.Files;
import java.nio.file.Path;
import java.util.List;
import java.util.TreeSet;
import java.util.regex.Matcher;
import java.util.regex.Pattern;

/** What README.md tells of the calls: each answer in its examples, and that no call is left out. */
final class ReadmeTest {
  private static final Checks C = new Checks();
  private static final Path README = Path.of("README.md");

  private static final Pattern MADE = Pattern.compile("PassedOnAndBetter x = new .*");
  private static final Pattern ANSWERED = Pattern.compile("x\\.(\\w+)\\((.*)\\); +// (-?\\d+).*");
  private static final Pattern TOLD = Pattern.compile("for \\(char letter : \"(.*)\"\\..*");
  /** The rest of a loop over letters. */
  private static final Pattern REST = Pattern.compile("  x\\.feed\\(letter\\);|}");

  private ReadmeTest() {}

  public static void main(String[] args) throws IOException {
    List<String> lines = Files.readAllLines(README);
    examples(lines);
    table(lines);
    C.end();
  }

  private static void examples(List<String> lines) {
    PassedOnAndBetter x = null;
    boolean inside = false;
    int answers = 0;
    for (String line : lines) {
      if (line.startsWith("```")) {
        inside = line.equals("```java");
      } else if (inside && MADE.matcher(line).matches()) {
        x = new PassedOnAndBetter();
      } else if (inside) {
        answers += follow(x, line);
      }
    }
    C.holds("answers in README.md: " + answers, answers >= 20);
  }

  /** Does what a line of an example says: how many answers it told. */
  private static int follow(PassedOnAndBetter x, String line) {
    Matcher told = TOLD.matcher(line);
    if (told.matches()) {
      Made.tell(x, told.group(1));
      return 0;
    }
    Matcher answered = ANSWERED.matcher(line);
    if (answered.matches()) {
      long got = Twins.call(x, answered.group(1), numbers(answered.group(2)));
      C.due("README.md: " + line, got, Long.parseLong(answered.group(3)));
      return 1;
    }
    C.holds("README.md: can't be followed: " + line, REST.matcher(line).matches());
    return 0;
  }

  private static int[] numbers(String list) {
    if (list.isEmpty()) {
      return new int[0];
    }
    String[] parts = list.split(", ");
    int[] all = new int[parts.length];
    for (int i = 0; i < all.length; i++) {
      all[i] = Integer.parseInt(parts[i]);
    }
    return all;
  }

  /** The table of all calls has each of the face once, and no other. */
  private static void table(List<String> lines) {
    TreeSet<String> face = new TreeSet<>(Twins.names());
    TreeSet<String> seen = new TreeSet<>();
    int from = lines.indexOf("| about | calls |");
    C.holds("README.md has the table of calls", from >= 0);
    for (int i = from + 2; i < lines.size() && lines.get(i).startsWith("|"); i++) {
      Matcher m = Pattern.compile("`(\\w+)`").matcher(lines.get(i));
      while (m.find()) {
        C.holds("README.md tells " + m.group(1) + " once", seen.add(m.group(1)));
      }
    }
    C.holds("README.md tells each call: " + seen, seen.equals(face));
  }
}
