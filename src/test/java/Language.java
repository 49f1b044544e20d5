import java.io.IOException;
import java.lang.reflect.Constructor;
import java.lang.reflect.Field;
import java.lang.reflect.Member;
import java.lang.reflect.Method;
import java.lang.reflect.Modifier;
import java.nio.file.Files;
import java.nio.file.Path;
import java.util.ArrayList;
import java.util.List;
import java.util.Set;
import java.util.TreeSet;
import java.util.regex.Matcher;
import java.util.regex.Pattern;

/** The rules of ../shared/LANGUAGE.md that can be seen without reading for sense. */
public final class Language {
  private static final String FACE = "size(int) feed(int) lists() list(int,int,int) stir(int,int,int)"
      + " stirred(int,int,int) undo() redo() best(int,int,int) asking(int,int) rounds(int) pair(int,int) ahead(int)"
      + " of(int,int) exposed(int) match(int) has(int,int,int) cost(int,int) pick(int) most() either(int,int,int)"
      + " middle(int,int,int) may(int,int) fixed() lie(int,int) text(int,int) hand(int,int) handed(int) blocks()"
      + " blocking() mended(int) known() image() back() count(int)";
  private static final String[] FORBIDDEN = {
    "throw", "throws", "try", "catch", "synchronized", "assert", "import", "package", "instanceof", "yield", "null"
  };

  private static int wrong = 0;

  public static void main(String[] args) throws IOException {
    String source = Files.readString(Path.of("src/main/java/MatchLattice.java"));
    forbiddenWords(source.replaceAll("(?s)/\\*.*?\\*/|//[^\n]*", ""));
    lengths(source);
    face();
    classes();
    System.out.println(wrong == 0 ? "the rules are kept" : wrong + " rules are not kept");
    if (wrong != 0) {
      System.exit(1);
    }
  }

  private static void expect(String what, boolean holds) {
    if (!holds) {
      wrong++;
      System.out.println(what);
    }
  }

  private static void forbiddenWords(String code) {
    for (String word : FORBIDDEN) {
      expect("the word " + word, !Pattern.compile("\\b" + word + "\\b").matcher(code).find());
    }
    expect("a lambda or a method reference", !code.contains("->") && !code.contains("::"));
    expect("a function that throws", !code.contains("Exact("));
    expect("a sign beyond 127", code.chars().allMatch(sign -> sign < 128));
    Matcher made = Pattern.compile("(?m)^.*\\bnew\\b.*$").matcher(code);
    while (made.find()) {
      expect("made outside of a constructor: " + made.group(), made.group().matches("\\s+\\w+ = new .*;"));
    }
  }

  /** Methods begin behind four blanks in the class itself, behind eight in the classes inside. */
  private static void lengths(String source) {
    int since = 0;
    int line = 0;
    for (String text : source.split("\n")) {
      line++;
      expect("line " + line + " is too long", text.length() <= 120);
      if (text.matches(" {4}( {4})?\\w.*\\) \\{")) {
        since = line;
      }
      if (text.matches(" {4}( {4})?\\}")) {
        expect("the method of line " + since + " is too long", line - since <= 60 || since == 0);
        since = 0;
      }
    }
  }

  private static void face() {
    List<String> shown = new ArrayList<>();
    for (Method method : MatchLattice.class.getDeclaredMethods()) {
      if (isShown(method)) {
        shown.add(method.toString().replaceAll(".*MatchLattice\\.", ""));
        expect(method + " is not a plain one", method.getModifiers() == Modifier.PUBLIC
            && method.getReturnType() == int.class);
      }
    }
    expect("the face is not the document's", new TreeSet<>(shown).equals(new TreeSet<>(Set.of(FACE.split(" ")))));
    for (Field field : MatchLattice.class.getDeclaredFields()) {
      expect(field + " is shown", !isShown(field) || field.getName().matches("BAD|NOT|FULL|STATE|LONG"));
    }
    Constructor<?>[] made = MatchLattice.class.getDeclaredConstructors();
    expect("one public constructor", made.length == 1 && Modifier.isPublic(made[0].getModifiers()));
    expect("a public final class", MatchLattice.class.getModifiers() == (Modifier.PUBLIC | Modifier.FINAL));
  }

  private static boolean isShown(Member member) {
    return !Modifier.isPrivate(member.getModifiers()) && !member.isSynthetic();
  }

  private static void classes() {
    Class<?>[] inside = MatchLattice.class.getDeclaredClasses();
    expect("too many classes", inside.length + 1 <= 12);
    for (Class<?> one : inside) {
      expect(one + " is not static", Modifier.isStatic(one.getModifiers()));
      for (Method method : one.getDeclaredMethods()) {
        expect(method + " bears a name of the face", !(" " + FACE).contains(" " + method.getName() + "("));
        expect(method + " takes too much", method.getParameterCount() <= 7);
      }
      fields(one);
    }
    fields(MatchLattice.class);
  }

  private static void fields(Class<?> one) {
    int own = 0;
    for (Field field : one.getDeclaredFields()) {
      own += Modifier.isStatic(field.getModifiers()) ? 0 : 1;
      expect(field + " is static and not final",
          !Modifier.isStatic(field.getModifiers()) || Modifier.isFinal(field.getModifiers()));
    }
    expect(one + " has too many fields", own <= 20);
  }
}
