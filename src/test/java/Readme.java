import java.io.IOException;
import java.lang.reflect.InvocationTargetException;
import java.lang.reflect.Method;
import java.lang.reflect.Modifier;
import java.nio.file.Files;
import java.nio.file.Path;
import java.util.Set;
import java.util.TreeSet;
import java.util.regex.Matcher;
import java.util.regex.Pattern;

/** README.md: its calls answer what it says behind them, and it names each call and each answer of the face. */
public final class Readme {
  private static final Pattern TEXT = Pattern.compile("String text = \"([^\"]*)\";");
  private static final Pattern CALL = Pattern.compile("^ {4}x\\.(\\w+)\\(([^)]*)\\); +// (-?\\d+):");

  private static int wrong = 0;

  public static void main(String[] args) throws IOException, ReflectiveOperationException {
    String readme = Files.readString(Path.of("README.md"));
    example(readme);
    names(readme);
    System.out.println(wrong == 0 ? "README.md says what is" : wrong + " faults in README.md");
    if (wrong != 0) {
      System.exit(1);
    }
  }

  private static void due(String what, Object got, Object want) {
    if (!got.equals(want)) {
      wrong++;
      System.out.println(what + " is " + got + ", due is " + want);
    }
  }

  /** Line by line, on one object; a text is fed where it stands. */
  private static void example(String readme) throws ReflectiveOperationException {
    MatchLattice x = new MatchLattice();
    int calls = 0;
    int texts = 0;
    for (String line : readme.split("\n")) {
      Matcher text = TEXT.matcher(line);
      if (text.find()) {
        Told.feed(x, text.group(1));
        texts++;
      }
      Matcher call = CALL.matcher(line);
      if (call.find()) {
        due(call.group(1) + "(" + call.group(2) + ")", answer(x, call.group(1), call.group(2)),
            Integer.parseInt(call.group(3)));
        calls++;
      }
    }
    due("texts in the example", texts, 1);
    due("the example has calls", calls > 10, true);
  }

  private static int answer(MatchLattice x, String name, String numbers)
      throws IllegalAccessException, InvocationTargetException {
    String[] parts = numbers.isEmpty() ? new String[0] : numbers.split(", ");
    Object[] given = new Object[parts.length];
    for (int i = 0; i < parts.length; i++) {
      given[i] = Integer.parseInt(parts[i]);
    }
    for (Method method : MatchLattice.class.getDeclaredMethods()) {
      if (Modifier.isPublic(method.getModifiers()) && method.getName().equals(name)) {
        return (Integer) method.invoke(x, given);
      }
    }
    return Integer.MIN_VALUE;
  }

  private static void names(String readme) {
    Set<String> named = new TreeSet<>();
    Matcher call = Pattern.compile("`([a-z]+)`").matcher(readme);
    while (call.find()) {
      named.add(call.group(1));
    }
    named.remove("main");
    named.remove("javac");
    named.remove("java");
    Set<String> face = new TreeSet<>();
    for (Method method : MatchLattice.class.getDeclaredMethods()) {
      if (Modifier.isPublic(method.getModifiers())) {
        face.add(method.getName());
      }
    }
    due("the calls that are named", named, face);
    String[] answers = {"`BAD` (" + MatchLattice.BAD, "`NOT` (" + MatchLattice.NOT, "`FULL` (" + MatchLattice.FULL,
        "`STATE` (" + MatchLattice.STATE, "`LONG` (" + MatchLattice.LONG};
    for (String answer : answers) {
      due(answer + ") is named", readme.contains(answer + ")"), true);
    }
  }
}
