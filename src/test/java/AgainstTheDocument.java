import java.util.ArrayDeque;
import java.util.ArrayList;
import java.util.Arrays;
import java.util.HashMap;
import java.util.HashSet;
import java.util.List;
import java.util.Map;
import java.util.Set;
import java.util.TreeSet;

/**
 * Long runs of calls, each answer held against a model that follows the document's definitions word by word:
 * it tries all matches, does all turns but one, and knows no short way.
 */
public final class AgainstTheDocument {
  private static final int[] ODD_NUMBERS = {
    Integer.MIN_VALUE, -1000, -3, -2, -1, 8, 9, 27, 28, 29, 31, 32, 63, 64, 127, 128, 4095, 4096, Integer.MAX_VALUE
  };
  private static final String CALLS = "size feed lists list stir stirred undo redo best asking rounds pair ahead of"
      + " exposed match has cost pick most either middle may fixed lie text hand handed blocks blocking mended known"
      + " image back count";

  private static int wrong = 0;
  private static long seed = 20260;

  public static void main(String[] args) {
    int longs = 0;
    int mostMatches = 0;
    for (int run = 0; run < 700; run++) {
      Walk walk = new Walk(run);
      walk.go();
      longs += walk.longs;
      mostMatches = Math.max(mostMatches, walk.mostMatches);
    }
    expect("a mending without an end was met", longs > 0);
    expect("the most matches met are 268, not " + mostMatches, mostMatches == 268);
    System.out.println(wrong == 0 ? "all answers are as due" : wrong + " answers are not as due");
    if (wrong != 0) {
      System.exit(1);
    }
  }

  private static void expect(String what, boolean holds) {
    if (!holds) {
      wrong++;
      System.out.println(what + ": does not hold");
    }
  }

  private static int below(int bound) {
    seed = seed * 6364136223846793005L + 1442695040888963407L;
    return (int) ((seed >>> 33) % bound);
  }

  /** One object and one model, and the same calls to both. */
  private static final class Walk {
    private final int run;
    private final MatchLattice x = new MatchLattice();
    private final Model model = new Model();
    private int calls = 0;
    private int longs = 0;
    private int mostMatches = 0;

    Walk(int run) {
      this.run = run;
    }

    void go() {
      String[] names = CALLS.split(" ");
      if (run % 5 != 0) {
        int n = 1 + below(8);
        call("size", n, 0, 0);
        tellLists(n);
      }
      for (int i = 0; i < 150 && calls < 512; i++) {
        String name = names[below(names.length)];
        int dice = below(100);
        if (dice < 3) {
          tellLists(model.n);
        } else if (dice < 6) {
          tellText(spoilt(someText(2)));
        } else if (dice < 7) {
          changeAndGoBack();
        } else if (name.equals("size") && below(4) > 0) {
          call("count", below(5), 0, 0);
        } else if (name.equals("hand") && below(5) == 0) {
          handSomeMatch();
        } else {
          call(name, someNumber(name), someNumber(name), someNumber(name));
        }
      }
    }

    private int someNumber(String name) {
      int dice = below(100);
      if (dice < 8) {
        return ODD_NUMBERS[below(ODD_NUMBERS.length)];
      }
      if (name.equals("feed")) {
        return dice < 50 ? "lr:;01234567".charAt(below(12)) : 30 + below(100);
      }
      return dice < 40 ? below(2) : dice < 80 ? below(model.n + 1) : dice < 95 ? below(12) - 1 : below(70);
    }

    /** Both sides' lists, in two texts, so that each fits on the tape. */
    private void tellLists(int n) {
      int[][][] lists = below(3) == 0 ? someLists(n) : richLists(n);
      while (model.tape.length() > 0) {
        call("lists", 0, 0, 0);
      }
      for (int side = 0; side < 2; side++) {
        StringBuilder text = new StringBuilder();
        for (int one = 0; one < n; one++) {
          text.append(one == 0 ? "" : ";").append(line(side, one, lists[side][one]));
        }
        tellText(text.toString());
      }
      call("match", -1, 0, 0);
      for (int i = below(3); i > 0 && n > 1; i--) {
        call("stir", below(2), below(n), below(n - 1));
      }
    }

    private String someText(int most) {
      StringBuilder text = new StringBuilder();
      for (int i = below(most); i >= 0; i--) {
        text.append(line(below(2), below(model.n), someOrder(model.n))).append(i == 0 ? "" : ";");
      }
      return text.toString();
    }

    private String spoilt(String text) {
      int at = below(text.length() + 1);
      char sign = "lr:;01234567 9".charAt(below(14));
      switch (below(4)) {
        case 0: return text.substring(0, at);
        case 1: return text.substring(0, at) + sign + text.substring(at);
        case 2: return at == text.length() ? text : text.substring(0, at) + sign + text.substring(at + 1);
        default: return text;
      }
    }

    private void tellText(String text) {
      for (int i = 0; i < text.length(); i++) {
        call("feed", text.charAt(i), 0, 0);
      }
      call("lists", 0, 0, 0);
    }

    private void changeAndGoBack() {
      for (int i = below(18); i >= 0; i--) {
        call("stir", below(2), below(model.n), below(Math.max(1, model.n - 1)));
      }
      for (int i = below(15); i >= 0; i--) {
        call("undo", 0, 0, 0);
        call("list", below(2), below(model.n), below(model.n));
      }
      for (int i = below(15); i >= 0; i--) {
        call("redo", 0, 0, 0);
        call("list", below(2), below(model.n), below(model.n));
      }
    }

    private void handSomeMatch() {
      List<int[]> all = model.derived().matches;
      int[] match = all.get(below(all.size()));
      for (int left = 0; left < model.n; left++) {
        call("hand", left, match[left], 0);
      }
      call("known", 0, 0, 0);
      call("blocks", 0, 0, 0);
    }

    private void call(String name, int a, int b, int c) {
      if (calls >= 512) {
        return;
      }
      calls++;
      int due = model.answer(name, a, b, c);
      int got = answer(x, name, a, b, c);
      if (name.equals("mended") && due == MatchLattice.LONG) {
        longs++;
      }
      if (name.equals("match") && a == -1) {
        mostMatches = Math.max(mostMatches, due);
      }
      expect("run " + run + ", call " + calls + ": " + name + " " + a + " " + b + " " + c + " answered " + got
          + ", due is " + due, got == due);
    }
  }

  private static String line(int side, int one, int[] order) {
    StringBuilder line = new StringBuilder(side == 0 ? "l" : "r").append(one).append(':');
    for (int who : order) {
      line.append(who);
    }
    return line.toString();
  }

  private static int[] someOrder(int n) {
    int[] order = new int[n];
    for (int i = 0; i < n; i++) {
      int j = below(i + 1);
      order[i] = order[j];
      order[j] = i;
    }
    return order;
  }

  private static int[][][] someLists(int n) {
    int[][][] lists = new int[2][n][];
    for (int one = 0; one < n; one++) {
      lists[0][one] = someOrder(n);
      lists[1][one] = someOrder(n);
    }
    return lists;
  }

  /** Lists of 4 or 8 with the many matches of Irving and Leather's doubling; of others, turned squares. */
  private static int[][][] richLists(int n) {
    int[][][] lists = new int[2][n][n];
    for (int one = 0; one < n; one++) {
      for (int place = 0; place < n; place++) {
        boolean doubling = n == 2 || n == 4 || n == 8;
        lists[0][one][place] = doubling ? one ^ place : (one + place) % n;
        lists[1][one][place] = doubling ? one ^ (n - 1 - place) : (one + 1 + place) % n;
      }
    }
    return lists;
  }

  private static int answer(MatchLattice x, String name, int a, int b, int c) {
    switch (name) {
      case "size": return x.size(a);
      case "feed": return x.feed(a);
      case "lists": return x.lists();
      case "list": return x.list(a, b, c);
      case "stir": return x.stir(a, b, c);
      case "stirred": return x.stirred(a, b, c);
      case "undo": return x.undo();
      case "redo": return x.redo();
      case "best": return x.best(a, b, c);
      case "asking": return x.asking(a, b);
      case "rounds": return x.rounds(a);
      case "pair": return x.pair(a, b);
      case "ahead": return x.ahead(a);
      case "of": return x.of(a, b);
      case "exposed": return x.exposed(a);
      case "match": return x.match(a);
      case "has": return x.has(a, b, c);
      case "cost": return x.cost(a, b);
      case "pick": return x.pick(a);
      case "most": return x.most();
      case "either": return x.either(a, b, c);
      case "middle": return x.middle(a, b, c);
      case "may": return x.may(a, b);
      case "fixed": return x.fixed();
      case "lie": return x.lie(a, b);
      case "text": return x.text(a, b);
      case "hand": return x.hand(a, b);
      case "handed": return x.handed(a);
      case "blocks": return x.blocks();
      case "blocking": return x.blocking();
      case "mended": return x.mended(a);
      case "known": return x.known();
      case "image": return x.image();
      case "back": return x.back();
      default: return x.count(a);
    }
  }

  /** What comes of lists alone. */
  private static final class Derived {
    final int n;
    final int[][][] lists;
    final List<int[]> stable = new ArrayList<>();
    final List<List<Integer>> turns = new ArrayList<>();
    final List<Integer> gains = new ArrayList<>();
    final List<Integer> ahead = new ArrayList<>();
    final List<Integer> bits = new ArrayList<>();
    final List<int[]> matches = new ArrayList<>();
    final Map<String, Integer> remembered = new HashMap<>();

    Derived(int[][][] lists) {
      this.lists = lists;
      this.n = lists[0].length;
      addStable(new int[n], 0, 0);
    }

    Derived withTurns() {
      if (!matches.isEmpty()) {
        return this;
      }
      findTurns();
      findAhead();
      findClosed();
      return this;
    }

    int place(int side, int one, int who) {
      for (int place = 0; place < n; place++) {
        if (lists[side][one][place] == who) {
          return place;
        }
      }
      throw new IllegalStateException();
    }

    boolean rather(int side, int one, int who, int current) {
      return current < 0 || place(side, one, who) < place(side, one, current);
    }

    private void addStable(int[] match, int left, int used) {
      if (left == n) {
        if (blocking(match).isEmpty()) {
          stable.add(match.clone());
        }
        return;
      }
      for (int right = 0; right < n; right++) {
        if ((used >> right & 1) == 0 && !blocksEarly(match, left, right)) {
          match[left] = right;
          addStable(match, left + 1, used | 1 << right);
        }
      }
    }

    private boolean blocksEarly(int[] match, int left, int right) {
      for (int other = 0; other < left; other++) {
        boolean newOne = rather(0, other, right, match[other]) && rather(1, right, other, left);
        boolean oldOne = rather(0, left, match[other], right) && rather(1, match[other], left, other);
        if (newOne || oldOne) {
          return true;
        }
      }
      return false;
    }

    /** Those who block, as 10 times the left and the right; -1 in the match: alone. */
    List<Integer> blocking(int[] match) {
      List<Integer> all = new ArrayList<>();
      for (int left = 0; left < n; left++) {
        for (int right = 0; right < n; right++) {
          if (match[left] != right && rather(0, left, right, match[left]) && rather(1, right, left, leftOf(match, right))) {
            all.add(10 * left + right);
          }
        }
      }
      return all;
    }

    /** The stable match in which all of the side have the best that they have in any. */
    int[] best(int side) {
      for (int[] match : stable) {
        boolean holds = true;
        for (int[] other : stable) {
          for (int one = 0; one < n; one++) {
            int mine = side == 0 ? match[one] : leftOf(match, one);
            int theirs = side == 0 ? other[one] : leftOf(other, one);
            holds &= mine == theirs || rather(side, one, mine, theirs);
          }
        }
        if (holds) {
          return match;
        }
      }
      throw new IllegalStateException();
    }

    int next(int[] match, int left) {
      for (int place = place(0, left, match[left]) + 1; place < n; place++) {
        int right = lists[0][left][place];
        if (rather(1, right, left, leftOf(match, right))) {
          return right;
        }
      }
      return -1;
    }

    List<List<Integer>> exposedIn(int[] match) {
      List<List<Integer>> all = new ArrayList<>();
      for (int first = 0; first < n; first++) {
        List<Integer> turn = new ArrayList<>();
        int left = first;
        for (int step = 0; step <= n && left >= first; step++) {
          if (step > 0 && left == first) {
            all.add(turn);
            break;
          }
          turn.add(10 * left + match[left]);
          int next = next(match, left);
          left = next < 0 ? -1 : leftOf(match, next);
        }
      }
      return all;
    }

    int[] done(int[] match, List<Integer> turn) {
      int[] behind = match.clone();
      for (int pair : turn) {
        behind[pair / 10] = next(match, pair / 10);
      }
      return behind;
    }

    private void findTurns() {
      int[] match = best(0);
      for (List<List<Integer>> open = exposedIn(match); !open.isEmpty(); open = exposedIn(match)) {
        int[] behind = done(match, open.get(0));
        turns.add(open.get(0));
        gains.add(cost(match, 2) - cost(behind, 2));
        match = behind;
      }
      expect("the last turn leads to the rights' best", Arrays.equals(match, best(1)));
    }

    private void findAhead() {
      for (int t = 0; t < turns.size(); t++) {
        ahead.add(0);
      }
      for (int a = 0; a < turns.size(); a++) {
        Set<List<Integer>> seen = exposedWithout(turns.get(a));
        for (int b = 0; b < turns.size(); b++) {
          if (b != a && !seen.contains(turns.get(b))) {
            ahead.set(b, ahead.get(b) | 1 << a);
          }
        }
      }
    }

    private Set<List<Integer>> exposedWithout(List<Integer> a) {
      Set<List<Integer>> seen = new HashSet<>();
      Set<String> met = new HashSet<>();
      ArrayDeque<int[]> todo = new ArrayDeque<>();
      todo.add(best(0));
      while (!todo.isEmpty()) {
        int[] match = todo.remove();
        if (met.add(Arrays.toString(match))) {
          for (List<Integer> turn : exposedIn(match)) {
            seen.add(turn);
            if (!turn.equals(a)) {
              todo.add(done(match, turn));
            }
          }
        }
      }
      return seen;
    }

    private void findClosed() {
      TreeSet<Integer> closed = new TreeSet<>();
      ArrayDeque<Integer> todo = new ArrayDeque<>();
      todo.add(0);
      while (!todo.isEmpty()) {
        int set = todo.remove();
        if (closed.add(set)) {
          for (int t = 0; t < turns.size(); t++) {
            if ((ahead.get(t) & ~set) == 0) {
              todo.add(set | 1 << t);
            }
          }
        }
      }
      Set<String> met = new HashSet<>();
      for (int set : closed) {
        int[] match = matchOf(set);
        bits.add(set);
        matches.add(match);
        met.add(Arrays.toString(match));
        expect("a closed set makes a stable match", blocking(match).isEmpty());
      }
      expect("each stable match comes of just one closed set", met.size() == closed.size() && met.size() == stable.size());
    }

    private int[] matchOf(int set) {
      int[] match = best(0);
      for (int t = 0; t < turns.size(); t++) {
        if ((set >> t & 1) == 1) {
          expect("a turn is exposed when it is done", exposedIn(match).contains(turns.get(t)));
          match = done(match, turns.get(t));
        }
      }
      return match;
    }

    int depth(int t) {
      return remembered.containsKey("depth" + t) ? remembered.get("depth" + t) : depthAnew(t);
    }

    private int depthAnew(int t) {
      int depth = 0;
      for (int a = 0; a < turns.size(); a++) {
        if ((ahead.get(t) >> a & 1) == 1) {
          depth = Math.max(depth, 1 + depth(a));
        }
      }
      remembered.put("depth" + t, depth);
      return depth;
    }

    int cost(int[] match, int which) {
      int lefts = 0;
      int rights = 0;
      int greatest = 0;
      for (int left = 0; left < n; left++) {
        int p = place(0, left, match[left]);
        int q = place(1, match[left], left);
        lefts += p;
        rights += q;
        greatest = Math.max(greatest, Math.max(p, q));
      }
      return new int[] {lefts, rights, lefts + rights, Math.abs(lefts - rights), greatest}[which];
    }

    int numberOf(int[] match) {
      for (int m = 0; m < matches.size(); m++) {
        if (Arrays.equals(matches.get(m), match)) {
          return m;
        }
      }
      return MatchLattice.NOT;
    }

    /** Of some matches the one in which each left has the rank-th of its rights, by its list. */
    int ranked(int rank, int... numbers) {
      int[] match = new int[n];
      for (int left = 0; left < n; left++) {
        int[] places = new int[numbers.length];
        for (int i = 0; i < numbers.length; i++) {
          places[i] = place(0, left, matches.get(numbers[i])[left]);
        }
        Arrays.sort(places);
        match[left] = lists[0][left][places[rank]];
      }
      return numberOf(match);
    }
  }

  private static int leftOf(int[] match, int right) {
    for (int left = 0; left < match.length; left++) {
      if (match[left] == right) {
        return left;
      }
    }
    return -1;
  }

  /** The object as the document tells it. */
  private static final class Model {
    private static final Map<String, Derived> KNOWN = new HashMap<>();

    int n = 3;
    int[][][] lists = first(3);
    int[] hand = alone(3);
    final StringBuilder tape = new StringBuilder();
    final ArrayDeque<int[][][]> undos = new ArrayDeque<>();
    final ArrayDeque<int[][][]> redos = new ArrayDeque<>();
    int[][][] keptLists = null;
    int[] keptHand = null;

    static int[][][] first(int n) {
      int[][][] lists = new int[2][n][n];
      for (int one = 0; one < n; one++) {
        for (int place = 0; place < n; place++) {
          lists[0][one][place] = place;
          lists[1][one][place] = place;
        }
      }
      return lists;
    }

    static int[] alone(int n) {
      int[] hand = new int[n];
      Arrays.fill(hand, -1);
      return hand;
    }

    static int[][][] copy(int[][][] lists) {
      int[][][] same = new int[2][lists[0].length][];
      for (int side = 0; side < 2; side++) {
        for (int one = 0; one < lists[side].length; one++) {
          same[side][one] = lists[side][one].clone();
        }
      }
      return same;
    }

    static Derived of(int[][][] lists) {
      String key = Arrays.deepToString(lists);
      if (KNOWN.size() > 3000) {
        KNOWN.clear();
      }
      if (!KNOWN.containsKey(key)) {
        KNOWN.put(key, new Derived(copy(lists)));
      }
      return KNOWN.get(key);
    }

    Derived derived() {
      return of(lists).withTurns();
    }

    boolean isBad(String name, int a, int b, int c) {
      boolean turn = a < 0;
      boolean match = a < 0;
      switch (name) {
        case "size": return a < 1 || a > 8;
        case "feed": return a < 32 || a > 126;
        case "list": return !in(a, 2) || !in(b, n) || !in(c, n);
        case "stir": case "stirred": return !in(a, 2) || !in(b, n) || !in(c, n - 1);
        case "best": return !in(a, 2) || !in(b, n) || (c != 0 && c != -1);
        case "asking": return !in(a, 2) || b < -1;
        case "rounds": case "match": return a < -1;
        case "pair": return turn || b < 0;
        case "ahead": case "exposed": return turn;
        case "of": return turn || !in(b, 2);
        case "has": return match || !in(b, 2) || !in(c, n);
        case "cost": return match || !in(b, 5);
        case "pick": return !in(a, 5);
        case "either": return match || b < 0 || !in(c, 2);
        case "middle": return match || b < 0 || c < 0;
        case "may": return !in(a, 2) || !in(b, n);
        case "lie": return !in(a, n) || !in(b, 2);
        case "text": return match || b < -1;
        case "hand": return !in(a, n) || (b != -1 && !in(b, n));
        case "handed": return !in(a, n);
        case "mended": return a != -1 && !in(a, n);
        case "count": return !in(a, 5);
        default: return false;
      }
    }

    private static boolean in(int number, int bound) {
      return number >= 0 && number < bound;
    }

    int answer(String name, int a, int b, int c) {
      if (isBad(name, a, b, c)) {
        return MatchLattice.BAD;
      }
      switch (name) {
        case "size": case "feed": case "lists": case "list": case "stir": case "stirred": case "undo": case "redo":
          return ofLists(name, a, b, c);
        case "hand": case "handed": case "blocks": case "blocking": case "mended": case "known":
          return byHand(name, a, b);
        case "image": case "back": case "count":
          return ofImage(name, a);
        case "best":
          int[] best = of(lists).best(a);
          return c == 0 ? best[b] : leftOf(best, b);
        case "asking":
          List<Integer> asked = asked(a);
          return b == -1 ? asked.size() : b < asked.size() ? asked.get(b) : MatchLattice.NOT;
        case "rounds": case "pair": case "ahead": case "of":
          return ofTurns(name, a, b);
        case "lie":
          return lie(a, b);
        default:
          return ofMatches(name, a, b, c);
      }
    }

    private int ofLists(String name, int a, int b, int c) {
      switch (name) {
        case "size":
          int before = n;
          n = a;
          lists = first(n);
          hand = alone(n);
          undos.clear();
          redos.clear();
          return before;
        case "feed":
          if (tape.length() == 120) {
            return MatchLattice.FULL;
          }
          tape.append((char) a);
          return tape.length();
        case "lists":
          return readTape();
        case "list":
          return lists[a][b][c];
        case "stir":
          change();
          swap(lists, a, b, c);
          return lists[a][b][c];
        case "stirred":
          int[][][] thought = copy(lists);
          swap(thought, a, b, c);
          return of(thought).stable.size();
        case "undo":
          return move(undos, redos);
        default:
          return move(redos, undos);
      }
    }

    private static void swap(int[][][] lists, int side, int one, int place) {
      int who = lists[side][one][place];
      lists[side][one][place] = lists[side][one][place + 1];
      lists[side][one][place + 1] = who;
    }

    private void change() {
      undos.push(copy(lists));
      redos.clear();
      if (undos.size() > 12) {
        undos.removeLast();
      }
    }

    private int move(ArrayDeque<int[][][]> from, ArrayDeque<int[][][]> to) {
      if (from.isEmpty()) {
        return MatchLattice.STATE;
      }
      to.push(lists);
      lists = from.pop();
      return from.size();
    }

    private int readTape() {
      String text = tape.toString();
      tape.setLength(0);
      String[] lines = text.split(";", -1);
      int start = 0;
      for (String line : lines) {
        int fault = faultIn(line);
        if (fault >= 0) {
          return -100 - start - fault;
        }
        start += line.length() + 1;
      }
      change();
      for (String line : lines) {
        for (int place = 0; place < n; place++) {
          lists[line.charAt(0) == 'l' ? 0 : 1][line.charAt(1) - '0'][place] = line.charAt(3 + place) - '0';
        }
      }
      return lines.length;
    }

    private int faultIn(String line) {
      String figures = "01234567".substring(0, n);
      for (int i = 0; i < n + 3; i++) {
        String well = i == 0 ? "lr" : i == 2 ? ":" : figures;
        if (i >= line.length() || well.indexOf(line.charAt(i)) < 0) {
          return i;
        }
        if (i > 2 && line.substring(3, i).indexOf(line.charAt(i)) >= 0) {
          return i;
        }
      }
      return line.length() > n + 3 ? n + 3 : -1;
    }

    private List<Integer> asked(int side) {
      Derived all = of(lists);
      List<Integer> times = new ArrayList<>();
      int[] of = alone(n);
      int[] holds = alone(n);
      int[] next = new int[n];
      for (int asker = least(of); asker < n; asker = least(of)) {
        int whom = lists[side][asker][next[asker]++];
        boolean yes = all.rather(1 - side, whom, asker, holds[whom]);
        times.add(100 * asker + 10 * whom + (yes ? 1 : 0));
        if (yes) {
          if (holds[whom] >= 0) {
            of[holds[whom]] = -1;
          }
          holds[whom] = asker;
          of[asker] = whom;
        }
      }
      return times;
    }

    private static int least(int[] of) {
      int one = 0;
      while (one < of.length && of[one] >= 0) {
        one++;
      }
      return one;
    }

    private int ofTurns(String name, int a, int b) {
      Derived all = derived();
      if (a == -1) {
        return all.turns.size();
      }
      if (a >= all.turns.size()) {
        return MatchLattice.NOT;
      }
      List<Integer> turn = all.turns.get(a);
      switch (name) {
        case "rounds": return turn.size();
        case "pair": return b < turn.size() ? turn.get(b) : MatchLattice.NOT;
        case "ahead": return all.ahead.get(a);
        default: return b == 0 ? all.depth(a) : 1000 + all.gains.get(a);
      }
    }

    private int ofMatches(String name, int a, int b, int c) {
      Derived all = derived();
      int total = all.matches.size();
      switch (name) {
        case "pick": return picked(all, a);
        case "most": return most(all);
        case "may": return may(all, a, b);
        case "fixed": return fixed(all);
        case "either":
          return a < total && b < total ? all.ranked(c, a, b) : MatchLattice.NOT;
        case "middle":
          return a < total && b < total && c < total ? all.ranked(1, a, b, c) : MatchLattice.NOT;
        case "match":
          return a == -1 ? total : a < total ? all.bits.get(a) : MatchLattice.NOT;
        default:
          return a < total ? ofMatch(name, all, all.matches.get(a), b, c) : MatchLattice.NOT;
      }
    }

    private int ofMatch(String name, Derived all, int[] match, int b, int c) {
      switch (name) {
        case "has": return b == 0 ? match[c] : leftOf(match, c);
        case "cost": return all.cost(match, b);
        case "exposed":
          int open = 0;
          for (List<Integer> turn : all.exposedIn(match)) {
            open |= 1 << all.turns.indexOf(turn);
          }
          return open;
        default:
          List<String> parts = new ArrayList<>();
          for (int left = 0; left < n; left++) {
            parts.add(left + "-" + match[left]);
          }
          String text = String.join(" ", parts);
          return b == -1 ? text.length() : b < text.length() ? text.charAt(b) : MatchLattice.NOT;
      }
    }

    private static int picked(Derived all, int which) {
      int picked = 0;
      for (int m = 1; m < all.matches.size(); m++) {
        if (all.cost(all.matches.get(m), which) < all.cost(all.matches.get(picked), which)) {
          picked = m;
        }
      }
      return picked;
    }

    private static int most(Derived all) {
      int most = 0;
      for (int set : all.bits) {
        int sum = 0;
        for (int t = 0; t < all.turns.size(); t++) {
          sum += (set >> t & 1) * all.gains.get(t);
        }
        most = Math.max(most, sum);
      }
      return most;
    }

    private static int may(Derived all, int side, int one) {
      int partners = 0;
      for (int[] match : all.stable) {
        partners |= 1 << (side == 0 ? match[one] : leftOf(match, one));
      }
      return partners;
    }

    private static int fixed(Derived all) {
      int lefts = 0;
      for (int left = 0; left < all.n; left++) {
        lefts |= Integer.bitCount(may(all, 0, left)) == 1 ? 1 << left : 0;
      }
      return lefts;
    }

    private int lie(int right, int what) {
      if (n > 5) {
        return MatchLattice.LONG;
      }
      Derived all = of(lists);
      String key = "lie" + right;
      if (!all.remembered.containsKey(key)) {
        int[] brought = new int[n];
        lieBy(all, right, new ArrayList<>(), brought);
        int best = 0;
        while (brought[best] == 0) {
          best++;
        }
        all.remembered.put(key, 1000 * best + brought[best]);
      }
      return what == 0 ? all.remembered.get(key) / 1000 : all.remembered.get(key) % 1000;
    }

    private void lieBy(Derived all, int right, List<Integer> list, int[] brought) {
      if (list.size() == n) {
        int[][][] told = copy(lists);
        for (int place = 0; place < n; place++) {
          told[1][right][place] = list.get(place);
        }
        brought[all.place(1, right, leftOf(new Derived(told).best(0), right))]++;
        return;
      }
      for (int left = 0; left < n; left++) {
        if (!list.contains(left)) {
          list.add(left);
          lieBy(all, right, list, brought);
          list.remove(list.size() - 1);
        }
      }
    }

    private int byHand(String name, int a, int b) {
      Derived all = of(lists);
      switch (name) {
        case "hand":
          int before = hand[a];
          handOver(hand, a, b);
          return orNot(before);
        case "handed":
          return orNot(hand[a]);
        case "blocks":
          return all.blocking(hand).isEmpty() ? MatchLattice.NOT : all.blocking(hand).get(0);
        case "blocking":
          return all.blocking(hand).size();
        case "known":
          return derived().numberOf(hand);
        default:
          return mended(all, a);
      }
    }

    private static int orNot(int who) {
      return who < 0 ? MatchLattice.NOT : who;
    }

    private static void handOver(int[] match, int left, int right) {
      int other = right < 0 ? -1 : leftOf(match, right);
      if (other >= 0) {
        match[other] = -1;
      }
      match[left] = right;
    }

    private int mended(Derived all, int left) {
      int[] match = hand.clone();
      int times = 0;
      for (List<Integer> who = all.blocking(match); !who.isEmpty(); who = all.blocking(match)) {
        handOver(match, who.get(0) / 10, who.get(0) % 10);
        times++;
        if (times > 200) {
          return MatchLattice.LONG;
        }
      }
      return left == -1 ? times : orNot(match[left]);
    }

    private int ofImage(String name, int what) {
      if (name.equals("image")) {
        keptLists = copy(lists);
        keptHand = hand.clone();
        return n;
      }
      if (name.equals("back")) {
        if (keptLists == null) {
          return MatchLattice.STATE;
        }
        lists = copy(keptLists);
        hand = keptHand.clone();
        n = hand.length;
        undos.clear();
        redos.clear();
        return n;
      }
      int alone = (int) Arrays.stream(hand).filter(right -> right < 0).count();
      return new int[] {n, tape.length(), undos.size(), redos.size(), alone}[what];
    }
  }
}
