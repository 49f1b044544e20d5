import java.io.IOException;
import java.nio.file.Files;
import java.nio.file.Path;

/** Tests by sentences of ../shared/DOC.md: each bears the words it stands for, and by these a fault is told. */
final class Sentences {
  interface Test {
    void run();
  }

  interface Call {
    int with(int number);
  }

  private static String document = "";
  private static String words = "";
  private static int tests = 0;
  private static int looks = 0;
  private static int wrong = 0;

  private Sentences() {
  }

  static void open() throws IOException {
    document = plain(Files.readString(Path.of("../shared/DOC.md")));
  }

  static void close() {
    System.out.println(wrong == 0 ? "all " + tests + " sentences hold" : wrong + " answers are not as due");
    if (wrong != 0) {
      System.exit(1);
    }
  }

  /** Words that the document doesn't have, and a test that looks at nothing, are faults of the tests. */
  static void says(String said, Test test) {
    words = said;
    tests++;
    if (!document.contains(plain(said))) {
      fault("the document does not say this");
    }
    int before = looks;
    test.run();
    if (looks == before) {
      fault("nothing was looked at");
    }
  }

  static void due(String call, int got, int want) {
    looks++;
    if (got != want) {
      fault(call + " answered " + got + ", due is " + want);
    }
  }

  static void due(String what, String got, String want) {
    looks++;
    if (!got.equals(want)) {
      fault(what + " is " + got + ", due is " + want);
    }
  }

  /** BAD just outside of the numbers from .. to, and far outside; not BAD at both ends. */
  static void within(String call, int from, int to, Call made) {
    notBelow(call, from, made);
    due(call + " with " + (to + 1), made.with(to + 1), MatchLattice.BAD);
    due(call + " with the greatest int", made.with(Integer.MAX_VALUE), MatchLattice.BAD);
    due(call + " with " + to + " is BAD", made.with(to) == MatchLattice.BAD ? 1 : 0, 0);
  }

  /** BAD just below a number, and far below; not BAD at it. */
  static void notBelow(String call, int from, Call made) {
    due(call + " with " + (from - 1), made.with(from - 1), MatchLattice.BAD);
    due(call + " with the least int", made.with(Integer.MIN_VALUE), MatchLattice.BAD);
    due(call + " with " + from + " is BAD", made.with(from) == MatchLattice.BAD ? 1 : 0, 0);
  }

  /** NOT at a number and far above; another answer just below it. */
  static void thereAre(String call, int many, Call made) {
    due(call + " with " + many, made.with(many), MatchLattice.NOT);
    due(call + " with the greatest int", made.with(Integer.MAX_VALUE), MatchLattice.NOT);
    if (many > 0) {
      due(call + " with " + (many - 1) + " is there", made.with(many - 1) >= 0 ? 1 : 0, 1);
    }
  }

  private static void fault(String text) {
    wrong++;
    System.out.println("\"" + words + "\": " + text);
  }

  private static String plain(String text) {
    return text.replaceAll("```\\w*", " ").replaceAll("\\s+", " ").trim();
  }
}
