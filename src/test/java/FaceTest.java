import java.io.IOException;
import java.lang.reflect.Constructor;
import java.lang.reflect.Field;
import java.lang.reflect.Method;
import java.lang.reflect.Modifier;
import java.nio.file.Files;
import java.nio.file.Path;
import java.util.Arrays;
import java.util.HashSet;
import java.util.Set;
import java.util.TreeSet;
import java.util.regex.Matcher;
import java.util.regex.Pattern;

/** The public face, and those rules of LANGUAGE.md that can be looked up in the text. */
final class FaceTest {
  private static final Checks C = new Checks();
  private static final Path PROGRAM = Path.of("src/main/java/PassedOnAndBetter.java");

  private static final String[] FACE = {
    "int feed 1", "int circle 0", "int friendOf 2", "int giftOf 2", "int friend 3", "int gift 3",
    "int nexts 2", "int doors 2", "int hands 2", "int months 1", "int back 0", "int behind 3",
    "int then 2", "int given 2", "int comes 2", "int sticks 0", "int bestStart 3",
    "int bestNext 3", "int doorsFor 3", "int doorWanted 3", "int passedOver 1", "int chain 2",
    "int circles 0", "int way 2", "int whatItWas 2", "int whoHad 2", "int two 3", "long lost 5",
    "int added 2", "int dearest 1", "int tooLarge 1", "int hasty 1", "long mean 1", "int meet 2",
    "int bare 1", "int year 0", "int row 1", "int judge 0", "int clear 0", "int lots 3",
    "int image 0", "int restore 0", "int count 1"
  };

  /** What the program's text must not hold, comments and texts apart. */
  private static final String[] NOT_THERE = {
    "\\bthrow\\b", "\\bthrows\\b", "\\btry\\b", "\\bcatch\\b", "\\bassert\\b", "\\bsynchronized\\b",
    "\\bimport\\b", "\\bpackage\\b", "->", "::", "Exact\\b", "\\bSystem\\b", "\\bThread\\b",
    "\\bRandom\\b", "\\bString\\.", "\\bequals\\b", "\\bhashCode\\b", "\\btoString\\b",
    "\\bInteger\\.M", "\\bLong\\.M", "\\bprotected\\b", "\\bfloat\\b", "\\bdouble\\b", "\\bvar\\b"
  };

  private FaceTest() {}

  public static void main(String[] args) throws IOException {
    face();
    names();
    sizes();
    text(Files.readString(PROGRAM));
    C.end();
  }

  private static void face() {
    Class<?> c = PassedOnAndBetter.class;
    C.due("modifiers", c.getModifiers(), Modifier.PUBLIC | Modifier.FINAL);
    Set<String> open = new TreeSet<>();
    for (Method m : c.getDeclaredMethods()) {
      if (!Modifier.isPrivate(m.getModifiers())) {
        open.add(m.getReturnType() + " " + m.getName() + " " + m.getParameterCount());
        C.due(m.getName() + ": modifiers", m.getModifiers(), Modifier.PUBLIC);
        C.holds(m.getName() + ": int parameters",
            Arrays.stream(m.getParameterTypes()).allMatch(t -> t == int.class));
      }
    }
    C.holds("the face, not " + open, open.equals(new TreeSet<>(Arrays.asList(FACE))));
    for (Field f : c.getDeclaredFields()) {
      C.holds(f.getName() + " is private", Modifier.isPrivate(f.getModifiers()));
    }
    Constructor<?>[] made = c.getDeclaredConstructors();
    C.due("constructors", made.length, 1);
    C.due("constructor's parameters", made[0].getParameterCount(), 0);
    C.due("constructor's modifiers", made[0].getModifiers(), Modifier.PUBLIC);
  }

  private static void names() {
    Set<String> open = new HashSet<>();
    for (String line : FACE) {
      open.add(line.split(" ")[1]);
    }
    for (Class<?> inside : PassedOnAndBetter.class.getDeclaredClasses()) {
      C.holds(inside + " is static and not public", Modifier.isStatic(inside.getModifiers())
          && !Modifier.isPublic(inside.getModifiers()));
      for (Method m : inside.getDeclaredMethods()) {
        C.holds(inside + "." + m.getName() + " bears no public name", !open.contains(m.getName()));
      }
      for (Field f : inside.getDeclaredFields()) {
        C.holds(inside + "." + f.getName() + " is final, if static",
            !Modifier.isStatic(f.getModifiers()) || Modifier.isFinal(f.getModifiers()));
      }
    }
    for (Method m : PassedOnAndBetter.class.getDeclaredMethods()) {
      C.holds(m.getName() + " is public or bears no public name",
          Modifier.isPublic(m.getModifiers()) || !open.contains(m.getName()));
    }
  }

  private static void sizes() {
    Class<?>[] inside = PassedOnAndBetter.class.getDeclaredClasses();
    C.holds("some twelve classes", inside.length + 1 <= 12);
    for (Class<?> c : inside) {
      C.holds(c + ": some twenty fields", Arrays.stream(c.getDeclaredFields())
          .filter(f -> !Modifier.isStatic(f.getModifiers())).count() <= 20);
      for (Method m : c.getDeclaredMethods()) {
        C.holds(m + ": seven parameters", m.getParameterCount() <= 7);
      }
    }
  }

  private static void text(String program) {
    for (char sign : program.toCharArray()) {
      if (sign > 126) {
        C.holds("sign " + (int) sign, false);
      }
    }
    String bare = program.replaceAll("(?s)/\\*.*?\\*/", "").replaceAll("//[^\n]*", "");
    for (String word : NOT_THERE) {
      Matcher m = Pattern.compile(word).matcher(bare);
      C.holds("no " + word, !m.find());
    }
    Matcher m = Pattern.compile("\\b(Math|Integer|Long|Arrays)\\.(\\w+)").matcher(bare);
    while (m.find()) {
      C.holds(m.group(), Set.of("min", "max", "bitCount").contains(m.group(2)));
    }
  }
}
