import java.io.IOException;

/** Each promise of ../shared/DOC.md, by its own sentences: at the edges of its numbers, and just outside of them. */
public final class SentencesOfPromises {
  private static final int BAD = MatchLattice.BAD;
  private static final int NOT = MatchLattice.NOT;
  private static final int FULL = MatchLattice.FULL;
  private static final int STATE = MatchLattice.STATE;
  private static final int LONG = MatchLattice.LONG;

  public static void main(String[] args) throws IOException {
    Sentences.open();
    aNewObject();
    lists();
    changes();
    asking();
    turns();
    exposed();
    matches();
    ofSeveralMatches();
    inThought();
    printed();
    byHand();
    mended();
    image();
    Sentences.close();
  }

  private static void says(String words, Sentences.Test test) {
    Sentences.says(words, test);
  }

  private static void due(String call, int got, int want) {
    Sentences.due(call, got, want);
  }

  private static void due(String what, String got, String want) {
    Sentences.due(what, got, want);
  }

  private static void aNewObject() {
    says("`MatchLattice()`: 3 of each side.", () -> {
      MatchLattice x = new MatchLattice();
      due("state", Told.stateOf(x), "l0:012;l1:012;l2:012;r0:012;r1:012;r2:012 | --- | 3 0 0 0 3 | 1");
      due("list(0, 2, 2)", x.list(0, 2, 2), 2);
      due("list(0, 3, 0)", x.list(0, 3, 0), BAD);
      due("undo()", x.undo(), STATE);
      due("redo()", x.redo(), STATE);
      due("back()", x.back(), STATE);
      due("lists()", x.lists(), -100);
    });
    says("`int size(int n)`: There are n of each side, LISTS as at first: how many there were. BAD.", () -> {
      Sentences.within("size(n)", 1, 8, n -> new MatchLattice().size(n));
      MatchLattice x = Told.with(Told.WHEEL);
      due("size(8)", x.size(8), 3);
      due("size(1)", x.size(1), 8);
      due("size(1) again", x.size(1), 1);
      due("size(0)", x.size(0), BAD);
      due("size(9)", x.size(9), BAD);
      due("size(2)", x.size(2), 1);
      due("lists", Told.listsOf(x), "l0:01;l1:01;r0:01;r1:01");
      due("size(3)", x.size(3), 2);
      due("lists", Told.listsOf(x), "l0:012;l1:012;l2:012;r0:012;r1:012;r2:012");
      due("turns of lists as at first", x.rounds(-1), 0);
    });
    says("`int feed(int letter)`: A byte (32 .. 126) comes to THE TAPE: how many it has. BAD, FULL.", () -> {
      Sentences.within("feed(letter)", 32, 126, letter -> new MatchLattice().feed(letter));
      MatchLattice x = new MatchLattice();
      for (int i = 1; i <= 120; i++) {
        due("feed", x.feed(i <= 95 ? 31 + i : 32), i);
      }
      due("the 121st", x.feed('l'), FULL);
      due("again", x.feed('l'), FULL);
      due("a byte that is none, too", x.feed(127), BAD);
      due("count(1)", x.count(1), 120);
    });
  }

  private static void lists() {
    says("`int lists()`: THE TAPE, which is empty then, is a TEXT of LISTS: how many LINES; -100 less the FAULT (no LIST"
        + " changes, no CHANGE).", () -> {
      MatchLattice x = new MatchLattice();
      due("one line", Told.tell(x, "l0:021"), 1);
      due("an empty tape", x.lists(), -100);
      due("a fault at 0", Told.tell(x, "?"), -100);
      due("a fault in the second line", Told.tell(x, "l0:210;l1:01l"), -112);
      due("a fault at the end", Told.tell(x, "r0:210;"), -107);
      due("no list changes", Told.listsOf(x), "l0:021;l1:012;l2:012;r0:012;r1:012;r2:012");
      due("no change", x.count(2), 1);
      x.undo();
      due("a fault", Told.tell(x, "l0:210;l1:210;"), -114);
      due("no change, so that it can be done again", x.redo(), 0);
      due("a list", Told.listOf(x, 0, 0), "021");
      MatchLattice y = Told.with(Told.WHEEL);
      due("turns", y.rounds(-1), 2);
      due("a fault", Told.tell(y, "r0:012;r1:012;r2:01"), -119);
      due("turns", y.rounds(-1), 2);
      due("three lines", Told.tell(y, "r0:012;r1:012;r2:012"), 3);
      due("turns behind a text", y.rounds(-1), 0);
    });
    says("`int list(int side, int one, int place)`: Who stands on a PLACE of one's LIST (side 0: a LEFT's, 1: a RIGHT's)."
        + " BAD.", () -> {
      for (int n = 1; n <= 8; n++) {
        MatchLattice x = Told.of(n);
        Sentences.within("list(side, 0, 0)", 0, 1, side -> x.list(side, 0, 0));
        for (int side = 0; side < 2; side++) {
          int of = side;
          Sentences.within("list(" + side + ", one, 0)", 0, n - 1, one -> x.list(of, one, 0));
          Sentences.within("list(" + side + ", 0, place)", 0, n - 1, place -> x.list(of, 0, place));
        }
      }
      MatchLattice y = Told.with(Told.FORK);
      due("list(0, 4, 0)", y.list(0, 4, 0), 4);
      due("list(0, 4, 4)", y.list(0, 4, 4), 3);
      due("list(1, 0, 4)", y.list(1, 0, 4), 2);
      due("list(1, 4, 1)", y.list(1, 4, 1), 3);
    });
  }

  private static void changes() {
    says("`int stir(int side, int one, int place)`: Those on a PLACE and the next one of one's LIST change: who stands on"
        + " the PLACE then. BAD (no next PLACE, too).", () -> {
      for (int n = 2; n <= 8; n++) {
        MatchLattice x = Told.of(n);
        for (int side = 0; side < 2; side++) {
          int of = side;
          Sentences.within("stir(" + side + ", one, 0)", 0, n - 1, one -> x.stir(of, one, 0));
          Sentences.within("stir(" + side + ", 0, place)", 0, n - 2, place -> x.stir(of, 0, place));
        }
        Sentences.within("stir(side, 0, 0)", 0, 1, side -> x.stir(side, 0, 0));
      }
      due("one of each has no next place", Told.of(1).stir(0, 0, 0), BAD);
      MatchLattice y = Told.of(8);
      due("stir(1, 7, 6)", y.stir(1, 7, 6), 7);
      due("stir(1, 7, 5)", y.stir(1, 7, 5), 7);
      due("stir(0, 0, 0)", y.stir(0, 0, 0), 1);
      due("list of r7", Told.listOf(y, 1, 7), "01234756");
      due("list of l0", Told.listOf(y, 0, 0), "10234567");
      due("stir(1, 7, 7)", y.stir(1, 7, 7), BAD);
      MatchLattice z = Told.with(Told.doubled(2));
      due("turns", z.rounds(-1), 1);
      z.stir(0, 1, 0);
      due("turns behind it", z.rounds(-1), 0);
    });
    says("`int stirred(int side, int one, int place)`: STIRRED so: how many MATCHES. BAD likewise.", () -> {
      for (int n = 2; n <= 8; n++) {
        MatchLattice x = Told.of(n);
        Sentences.within("stirred(side, 0, 0)", 0, 1, side -> x.stirred(side, 0, 0));
        for (int side = 0; side < 2; side++) {
          int of = side;
          Sentences.within("stirred(" + side + ", one, 0)", 0, n - 1, one -> x.stirred(of, one, 0));
          Sentences.within("stirred(" + side + ", 0, place)", 0, n - 2, place -> x.stirred(of, 0, place));
        }
        due("no change of it", x.count(2), 0);
      }
      due("one of each has no next place", Told.of(1).stirred(1, 0, 0), BAD);
      MatchLattice y = Told.with(Told.WHEEL);
      due("stirred(0, 0, 0)", y.stirred(0, 0, 0), 2);
      due("matches as they are", y.match(-1), 3);
      due("turns as they are", y.rounds(-1), 2);
      due("stirred ahead of all else", Told.with(Told.doubled(2)).stirred(1, 1, 0), 1);
    });
    says("`int undo()`: UNDONE: how many may still be. STATE: none.", () -> {
      MatchLattice x = new MatchLattice();
      due("undo() at first", x.undo(), STATE);
      x.stir(0, 0, 0);
      x.stir(0, 0, 1);
      due("the second", x.undo(), 1);
      due("the first", x.undo(), 0);
      due("none", x.undo(), STATE);
      due("lists", Told.listOf(x, 0, 0), "012");
      MatchLattice y = Told.with(Told.doubled(2));
      due("matches", y.match(-1), 2);
      y.undo();
      due("matches of lists undone", y.match(-1), 1);
    });
    says("`int redo()`: DONE AGAIN: how many may still be. STATE: none.", () -> {
      MatchLattice x = new MatchLattice();
      due("redo() at first", x.redo(), STATE);
      x.stir(0, 0, 0);
      due("redo() of none undone", x.redo(), STATE);
      x.stir(0, 0, 1);
      x.undo();
      x.undo();
      due("the first", x.redo(), 1);
      due("the second", x.redo(), 0);
      due("none", x.redo(), STATE);
      due("lists", Told.listOf(x, 0, 0), "120");
      MatchLattice y = Told.with(Told.doubled(2));
      y.undo();
      due("matches", y.match(-1), 1);
      y.redo();
      due("matches of lists done again", y.match(-1), 2);
    });
  }

  private static void asking() {
    says("`int best(int side, int one, int by)`: Whom a LEFT has (by -1: whom a RIGHT has) in the BEST of a side. BAD:"
        + " side, one, by (0, -1).", () -> {
      for (int n = 1; n <= 8; n++) {
        MatchLattice x = Told.of(n);
        Sentences.within("best(side, 0, 0)", 0, 1, side -> x.best(side, 0, 0));
        for (int by = -1; by <= 0; by++) {
          int of = by;
          Sentences.within("best(0, one, " + by + ")", 0, n - 1, one -> x.best(0, one, of));
          Sentences.within("best(1, one, " + by + ")", 0, n - 1, one -> x.best(1, one, of));
        }
        Sentences.within("best(0, 0, by)", -1, 0, by -> x.best(0, 0, by));
      }
      MatchLattice y = Told.with(Told.UNEVEN);
      due("lefts' best", Told.bestOf(y, 0), "201");
      due("rights' best", Told.bestOf(y, 1), "120");
      due("whom r0 has in the lefts'", y.best(0, 0, -1), 1);
      due("whom r0 has in the rights'", y.best(1, 0, -1), 2);
    });
    says("`int asking(int side, int i)`: ASKING by a side: how often one asked (i -1), of the i-th time (from 0) 100 times"
        + " who asked, 10 times whom, and 1 for yes, 0 for no. BAD; NOT: there were not as many.", () -> {
      MatchLattice x = Told.with(Told.LIAR);
      Sentences.within("asking(side, -1)", 0, 1, side -> x.asking(side, -1));
      Sentences.within("asking(side, 0)", 0, 1, side -> x.asking(side, 0));
      Sentences.notBelow("asking(0, i)", -1, i -> x.asking(0, i));
      Sentences.notBelow("asking(1, i)", -1, i -> x.asking(1, i));
      due("how often", x.asking(0, -1), 5);
      Sentences.thereAre("asking(0, i)", 5, i -> x.asking(0, i));
      due("the first", x.asking(0, 0), 1);
      due("one no", x.asking(0, 2), 200);
      due("the last", x.asking(0, 4), 221);
      MatchLattice y = Told.with(Told.muchAsked(8));
      Sentences.thereAre("asking(0, i) of 57", 57, i -> y.asking(0, i));
      due("who has 7 asks", y.asking(0, 7), 701);
      Sentences.thereAre("asking(1, i) of one", 1, i -> Told.of(1).asking(1, i));
    });
  }

  private static void turns() {
    says("`int rounds(int t)`: How many TURNS (t -1), how many PAIRS the t-th has. BAD; NOT: there are not as many.",
        () -> {
      MatchLattice x = Told.with(Told.WHEEL);
      Sentences.notBelow("rounds(t)", -1, t -> x.rounds(t));
      due("rounds(-1)", x.rounds(-1), 2);
      due("rounds(1)", x.rounds(1), 3);
      Sentences.thereAre("rounds(t)", 2, t -> x.rounds(t));
      Sentences.thereAre("rounds(t) of none", 0, t -> Told.of(1).rounds(t));
      Sentences.thereAre("rounds(t) of 28", 28, t -> Told.with(Told.doubled(8)).rounds(t));
      due("no turns", Told.of(8).rounds(-1), 0);
    });
    says("`int pair(int t, int k)`: The k-th PAIR of a TURN: 10 times the LEFT, and the RIGHT. BAD: t, k below 0; NOT:"
        + " there is none.", () -> {
      MatchLattice x = Told.with(Told.WHEEL);
      Sentences.notBelow("pair(t, 0)", 0, t -> x.pair(t, 0));
      Sentences.notBelow("pair(0, k)", 0, k -> x.pair(0, k));
      Sentences.notBelow("pair(t, 9)", 0, t -> x.pair(t, 9));
      Sentences.notBelow("pair(9, k)", 0, k -> x.pair(9, k));
      Sentences.thereAre("pair(t, 0)", 2, t -> x.pair(t, 0));
      Sentences.thereAre("pair(t, 2)", 2, t -> x.pair(t, 2));
      Sentences.thereAre("pair(0, k)", 3, k -> x.pair(0, k));
      due("the last pair", x.pair(1, 2), 20);
      MatchLattice y = Told.with(Told.doubled(8));
      Sentences.thereAre("pair(0, k) of two", 2, k -> y.pair(0, k));
      Sentences.thereAre("pair(27, k) of two", 2, k -> y.pair(27, k));
      Sentences.thereAre("pair(0, k) of eight", 8, k -> Told.with(Told.turned(8)).pair(0, k));
      due("the eighth pair", Told.with(Told.turned(8)).pair(0, 7), 77);
      due("no turns", new MatchLattice().pair(0, 0), NOT);
    });
    says("`int ahead(int t)`: TURNS (BITS) that are AHEAD of a TURN. BAD; NOT: no such one.", () -> {
      MatchLattice x = Told.with(Told.FORK);
      Sentences.notBelow("ahead(t)", 0, t -> x.ahead(t));
      Sentences.thereAre("ahead(t)", 5, t -> x.ahead(t));
      due("none", x.ahead(0), 0);
      due("0", x.ahead(1), 1);
      due("0 and 1", x.ahead(2), 3);
      due("0", x.ahead(3), 1);
      due("all four", x.ahead(4), 15);
      due("no turns", new MatchLattice().ahead(0), NOT);
      due("all six", Told.with(Told.turned(8)).ahead(6), 63);
    });
    says("`int of(int t, int what)`: DEPTH of a TURN (what 0), GAIN (1: 1000 and that). BAD; NOT: no such one.", () -> {
      MatchLattice x = Told.with(Told.FORK);
      Sentences.notBelow("of(t, 0)", 0, t -> x.of(t, 0));
      Sentences.notBelow("of(t, 1)", 0, t -> x.of(t, 1));
      Sentences.within("of(0, what)", 0, 1, what -> x.of(0, what));
      Sentences.within("of(4, what)", 0, 1, what -> x.of(4, what));
      Sentences.thereAre("of(t, 0)", 5, t -> x.of(t, 0));
      Sentences.thereAre("of(t, 1)", 5, t -> x.of(t, 1));
      due("BAD, though there is no such one", x.of(5, 2), BAD);
      due("BAD, though there is no such one", x.of(5, -1), BAD);
      due("depth", x.of(4, 0), 3);
      due("gain", x.of(1, 1), 1001);
      due("no gain", x.of(0, 1), 1000);
      due("loss", x.of(2, 1), 999);
      due("no turns", new MatchLattice().of(0, 0), NOT);
    });
  }

  private static void exposed() {
    says("`int exposed(int m)`: EXPOSED TURNS (BITS) of a MATCH. BAD; NOT: there are not as many.", () -> {
      MatchLattice x = Told.with(Told.FORK);
      Sentences.notBelow("exposed(m)", 0, m -> x.exposed(m));
      Sentences.thereAre("exposed(m)", 8, m -> x.exposed(m));
      due("of none done", x.exposed(0), 1);
      due("of 0 done", x.exposed(1), 2 + 8);
      due("of 0, 1 done", x.exposed(2), 4 + 8);
      due("of 0, 1, 2, 3 done", x.exposed(6), 16);
      due("of all done", x.exposed(7), 0);
      due("the one that leads to the last match", Integer.bitCount(Told.with(Told.doubled(8)).exposed(266)), 1);
      due("the best of both sides", Told.of(1).exposed(0), 0);
      due("the best of both sides has no other", Told.of(1).exposed(1), NOT);
    });
  }

  private static void matches() {
    says("`int match(int m)`: How many MATCHES (m -1), BITS of the m-th's CLOSED set. BAD; NOT: there are not as many.",
        () -> {
      MatchLattice x = Told.with(Told.FORK);
      Sentences.notBelow("match(m)", -1, m -> x.match(m));
      due("match(-1)", x.match(-1), 8);
      Sentences.thereAre("match(m)", 8, m -> x.match(m));
      int[] bits = {0, 1, 3, 7, 9, 11, 15, 31};
      for (int m = 0; m < 8; m++) {
        due("match(" + m + ")", x.match(m), bits[m]);
      }
      due("one match", Told.of(8).match(-1), 1);
      Sentences.thereAre("match(m) of one", 1, m -> Told.of(8).match(m));
      due("the last of 268", Told.with(Told.doubled(8)).match(267), 268435455);
    });
    says("`int has(int m, int side, int one)`: The RIGHT that a LEFT has in a MATCH (side 0), the LEFT that a RIGHT has"
        + " (1). BAD: m below 0, side, one; NOT: there are not as many.", () -> {
      for (int n = 1; n <= 8; n++) {
        MatchLattice x = Told.of(n);
        Sentences.notBelow("has(m, 0, 0)", 0, m -> x.has(m, 0, 0));
        Sentences.within("has(0, side, 0)", 0, 1, side -> x.has(0, side, 0));
        Sentences.within("has(0, 0, one)", 0, n - 1, one -> x.has(0, 0, one));
        Sentences.within("has(0, 1, one)", 0, n - 1, one -> x.has(0, 1, one));
        Sentences.within("has(1, 1, one)", 0, n - 1, one -> x.has(1, 1, one));
        Sentences.thereAre("has(m, 1, 0)", 1, m -> x.has(m, 1, 0));
      }
      MatchLattice y = Told.with(Told.UNEVEN);
      due("l0 in match 1", y.has(1, 0, 0), 1);
      due("r0 in match 1", y.has(1, 1, 0), 2);
      due("l2 in match 0", y.has(0, 0, 2), 1);
      due("r2 in match 0", y.has(0, 1, 2), 0);
    });
    says("`int cost(int m, int which)`: A COST (0 .. 4) of a MATCH. BAD; NOT: there are not as many.", () -> {
      MatchLattice x = Told.with(Told.WHEEL);
      Sentences.notBelow("cost(m, 0)", 0, m -> x.cost(m, 0));
      Sentences.within("cost(0, which)", 0, 4, which -> x.cost(0, which));
      Sentences.within("cost(3, which)", 0, 4, which -> x.cost(3, which));
      for (int which = 0; which <= 4; which++) {
        int of = which;
        Sentences.thereAre("cost(m, " + which + ")", 3, m -> x.cost(m, of));
      }
      int[][] costs = {{0, 6, 6, 6, 2}, {3, 3, 6, 0, 1}, {6, 0, 6, 6, 2}};
      for (int m = 0; m < 3; m++) {
        for (int which = 0; which <= 4; which++) {
          due("cost(" + m + ", " + which + ")", x.cost(m, which), costs[m][which]);
        }
      }
    });
    says("`int pick(int which)`: PICK by a COST: its number. BAD.", () -> {
      MatchLattice x = Told.with(Told.WHEEL);
      Sentences.within("pick(which)", 0, 4, which -> x.pick(which));
      int[] picked = {0, 2, 0, 1, 1};
      for (int which = 0; which <= 4; which++) {
        due("pick(" + which + ")", x.pick(which), picked[which]);
        due("pick(" + which + ") of one", Told.of(1).pick(which), 0);
      }
    });
    says("`int most()`: MOST.", () -> {
      due("of no turn", Told.of(1).most(), 0);
      due("of no gain", Told.with(Told.WHEEL).most(), 0);
      due("of a loss alone", Told.with(Told.LOSING).most(), 0);
      due("of a gain behind a loss", Told.with(Told.LOSING_FIRST).most(), 1);
      due("of some alone", Told.with(Told.GAINING_FIRST).most(), 1);
      due("0, 1, 2, 3 of FORK gain 0, 1, -1, -1", Told.with(Told.FORK).most(), 1);
    });
  }

  private static void ofSeveralMatches() {
    says("`int either(int m, int other, int which)`: BETTER of two MATCHES (which 0), WORSE (1): its number. BAD; NOT:"
        + " either is none.", () -> {
      MatchLattice x = Told.with(Told.TWO_PAIRS);
      for (int which = 0; which <= 1; which++) {
        int of = which;
        Sentences.notBelow("either(m, 0, " + which + ")", 0, m -> x.either(m, 0, of));
        Sentences.notBelow("either(0, other, " + which + ")", 0, other -> x.either(0, other, of));
        Sentences.notBelow("either(m, 4, " + which + ")", 0, m -> x.either(m, 4, of));
        Sentences.notBelow("either(4, other, " + which + ")", 0, other -> x.either(4, other, of));
        Sentences.thereAre("either(m, 3, " + which + ")", 4, m -> x.either(m, 3, of));
        Sentences.thereAre("either(3, other, " + which + ")", 4, other -> x.either(3, other, of));
      }
      Sentences.within("either(0, 0, which)", 0, 1, which -> x.either(0, 0, which));
      Sentences.within("either(4, 0, which)", 0, 1, which -> x.either(4, 0, which));
      due("better", x.either(1, 2, 0), 0);
      due("worse", x.either(1, 2, 1), 3);
      due("of one alone", x.either(3, 3, 0), 3);
      due("both are none", x.either(4, 4, 0), NOT);
    });
    says("`int middle(int a, int b, int c)`: The MIDDLE of three MATCHES: its number. BAD: one below 0; NOT: one is"
        + " none.", () -> {
      MatchLattice x = Told.with(Told.TWO_PAIRS);
      for (int other = 0; other <= 4; other += 4) {
        int of = other;
        Sentences.notBelow("middle(a, 0, " + other + ")", 0, a -> x.middle(a, 0, of));
        Sentences.notBelow("middle(" + other + ", b, 0)", 0, b -> x.middle(of, b, 0));
        Sentences.notBelow("middle(0, " + other + ", c)", 0, c -> x.middle(0, of, c));
      }
      Sentences.thereAre("middle(a, 3, 0)", 4, a -> x.middle(a, 3, 0));
      Sentences.thereAre("middle(0, b, 3)", 4, b -> x.middle(0, b, 3));
      Sentences.thereAre("middle(3, 0, c)", 4, c -> x.middle(3, 0, c));
      due("middle(1, 2, 3)", x.middle(1, 2, 3), 3);
      due("middle(0, 1, 2)", x.middle(0, 1, 2), 0);
      due("middle(3, 0, 1)", x.middle(3, 0, 1), 1);
      due("middle(2, 0, 2)", x.middle(2, 0, 2), 2);
    });
    says("`int may(int side, int one)`: RIGHTS (bits) that a LEFT has in any MATCH (side 0), LEFTS that a RIGHT has (1)."
        + " BAD.", () -> {
      for (int n = 1; n <= 8; n++) {
        MatchLattice x = Told.of(n);
        Sentences.within("may(side, 0)", 0, 1, side -> x.may(side, 0));
        Sentences.within("may(0, one)", 0, n - 1, one -> x.may(0, one));
        Sentences.within("may(1, one)", 0, n - 1, one -> x.may(1, one));
        due("one match alone", x.may(0, n - 1), 1 << n - 1);
      }
      due("all eight", Told.with(Told.doubled(8)).may(0, 7), 255);
      due("all eight", Told.with(Told.turned(8)).may(1, 7), 255);
      due("r2, r3", Told.with(Told.TWO_PAIRS).may(0, 2), 12);
      due("l0, l2", Told.with(Told.UNEVEN).may(1, 1), 5);
      due("l0 alone", Told.with(Told.TAIL).may(1, 2), 1);
      for (String lists : new String[] {Told.UNEVEN, Told.TAIL, Told.FORK, Told.APART_OF_SIX, Told.turned(8)}) {
        mayByMatches(lists);
      }
    });
    says("`int fixed()`: LEFTS (bits) that have the same RIGHT in all MATCHES.", () -> {
      due("all of one match", Told.of(8).fixed(), 255);
      due("one of one", Told.of(1).fixed(), 1);
      due("one", Told.with(Told.GAINING).fixed(), 4);
      due("l0", Told.with(Told.TAIL).fixed(), 1);
      due("none", Told.with(Told.WHEEL).fixed(), 0);
      due("none of eight", Told.with(Told.doubled(8)).fixed(), 0);
    });
  }

  private static void mayByMatches(String lists) {
    MatchLattice x = Told.with(lists);
    int n = x.count(0);
    int[] rights = new int[n];
    int[] lefts = new int[n];
    for (int m = x.match(-1) - 1; m >= 0; m--) {
      String match = Told.matchOf(x, m);
      for (int left = 0; left < n; left++) {
        int right = match.charAt(left) - '0';
        rights[left] |= 1 << right;
        lefts[right] |= 1 << left;
      }
    }
    int fixed = 0;
    for (int one = 0; one < n; one++) {
      due("may(0, " + one + ") of " + lists, x.may(0, one), rights[one]);
      due("may(1, " + one + ") of " + lists, x.may(1, one), lefts[one]);
      fixed |= Integer.bitCount(rights[one]) == 1 ? 1 << one : 0;
    }
    due("fixed() of " + lists, x.fixed(), fixed);
  }

  private static void inThought() {
    says("`int lie(int right, int what)`: A LIE of a RIGHT: the best PLACE (what 0), how many LISTS bring it (1). BAD;"
        + " LONG.", () -> {
      for (int n = 1; n <= 5; n++) {
        MatchLattice x = Told.of(n);
        Sentences.within("lie(right, 0)", 0, n - 1, right -> x.lie(right, 0));
        Sentences.within("lie(right, 1)", 0, n - 1, right -> x.lie(right, 1));
        Sentences.within("lie(0, what)", 0, 1, what -> x.lie(0, what));
      }
      for (int n = 6; n <= 8; n++) {
        MatchLattice x = Told.of(n);
        Sentences.within("lie(right, 0)", 0, n - 1, right -> x.lie(right, 0));
        Sentences.within("lie(0, what)", 0, 1, what -> x.lie(0, what));
        due("lie(0, 0)", x.lie(0, 0), LONG);
        due("lie(0, 1)", x.lie(0, 1), LONG);
      }
      MatchLattice y = Told.with(Told.LIAR);
      String before = Told.wholeStateOf(y);
      due("the best place", y.lie(0, 0), 0);
      due("by one list", y.lie(0, 1), 1);
      due("nothing has changed", Told.wholeStateOf(y), before);
      due("whom r0 has without it", y.best(0, 0, -1), 0);
    });
  }

  private static void printed() {
    says("`int text(int m, int i)`: Byte i of a MATCH printed (of each LEFT, with blanks between: its number, -, its"
        + " RIGHT; i -1: how many). BAD: m below 0, i below -1; NOT: there are not as many MATCHES, or bytes.", () -> {
      for (int n = 1; n <= 8; n++) {
        MatchLattice x = Told.of(n);
        due("how many bytes", x.text(0, -1), 4 * n - 1);
        due("printed", Told.textOf(x, 0), "0-0 1-1 2-2 3-3 4-4 5-5 6-6 7-7".substring(0, 4 * n - 1));
        Sentences.notBelow("text(m, 0)", 0, m -> x.text(m, 0));
        Sentences.notBelow("text(m, 99)", 0, m -> x.text(m, 99));
        Sentences.notBelow("text(0, i)", -1, i -> x.text(0, i));
        Sentences.notBelow("text(1, i)", -1, i -> x.text(1, i));
        Sentences.thereAre("text(0, i)", 4 * n - 1, i -> x.text(0, i));
        Sentences.thereAre("text(m, -1)", 1, m -> x.text(m, -1));
        Sentences.thereAre("text(m, 0)", 1, m -> x.text(m, 0));
      }
      due("match 1", Told.textOf(Told.with(Told.UNEVEN), 1), "0-1 1-2 2-0");
      due("match 267", Told.textOf(Told.with(Told.doubled(8)), 267), "0-7 1-6 2-5 3-4 4-3 5-2 6-1 7-0");
    });
  }

  private static void byHand() {
    says("`int hand(int left, int right)`: A LEFT has a RIGHT (-1: is alone) in the HAND-MADE MATCH: whom it had (NOT:"
        + " nobody). BAD.", () -> {
      for (int n = 1; n <= 8; n++) {
        MatchLattice x = Told.of(n);
        Sentences.within("hand(left, 0)", 0, n - 1, left -> x.hand(left, 0));
        Sentences.within("hand(left, -1)", 0, n - 1, left -> x.hand(left, -1));
        Sentences.within("hand(0, right)", -1, n - 1, right -> x.hand(0, right));
        due("the last one", x.hand(0, -1), n - 1);
        due("nobody", x.hand(0, -1), NOT);
        due("nobody", x.hand(n - 1, n - 1), NOT);
        due("the last one", x.hand(n - 1, 0), n - 1);
        due("r0", x.hand(n - 1, -1), 0);
      }
    });
    says("`int handed(int left)`: Whom a LEFT has there; NOT: nobody. BAD.", () -> {
      for (int n = 1; n <= 8; n++) {
        MatchLattice x = Told.of(n);
        Sentences.within("handed(left)", 0, n - 1, left -> x.handed(left));
        due("nobody", x.handed(n - 1), NOT);
        x.hand(n - 1, 0);
        due("r0", x.handed(n - 1), 0);
        x.hand(n - 1, n - 1);
        due("the last one", x.handed(n - 1), n - 1);
        x.hand(n - 1, -1);
        due("nobody again", x.handed(n - 1), NOT);
      }
    });
    says("`int blocks()`: Who BLOCKS it: 10 times the LEFT, and the RIGHT; NOT: nobody.", () -> {
      MatchLattice x = Told.with(Told.WHEEL);
      due("all alone", x.blocks(), 0);
      Told.handAll(x, "01-");
      due("l2 and r0, whom it would rather have, and who would", x.blocks(), 20);
      Told.handAll(x, "021");
      due("l1 would rather have none but r1, who would not", x.blocks(), 20);
      Told.handAll(x, "120");
      due("nobody", x.blocks(), NOT);
      MatchLattice y = Told.of(8);
      Told.handAll(y, "01234567");
      due("nobody of eight", y.blocks(), NOT);
      y.hand(7, -1);
      due("the last ones, who are alone", y.blocks(), 77);
    });
    says("`int blocking()`: How many LEFTS and RIGHTS BLOCK it, each two of them counted.", () -> {
      for (int n = 1; n <= 8; n++) {
        MatchLattice x = Told.of(n);
        due("all alone", x.blocking(), n * n);
        Told.handAll(x, "01234567".substring(0, n));
        due("nobody", x.blocking(), 0);
        Told.handAll(x, "76543210".substring(8 - n));
        due("all who have greater ones", x.blocking(), greaterOnes(n));
      }
      MatchLattice y = Told.with(Told.doubled(4));
      Told.handAll(y, "1032");
      due("a match", y.blocking(), 0);
      Told.handAll(y, "0132");
      due("another match", y.blocking(), 0);
      Told.handAll(y, "1203");
      due("no match: as its lists say", y.blocking(), blockedByLists(y));
    });
  }

  /** Left i has right n - 1 - i, and all lists are 0, 1, ..: those block of whom both have a greater number. */
  private static int greaterOnes(int n) {
    int many = 0;
    for (int left = 0; left < n; left++) {
      for (int right = 0; right < n; right++) {
        many += right < n - 1 - left && left < n - 1 - right ? 1 : 0;
      }
    }
    return many;
  }

  private static int blockedByLists(MatchLattice x) {
    int n = x.count(0);
    String rights = Told.handOf(x);
    int many = 0;
    for (int left = 0; left < n; left++) {
      for (int right = 0; right < n; right++) {
        int his = rights.charAt(left) - '0';
        int hers = rights.indexOf((char) ('0' + right));
        boolean would = Told.placeOf(x, 0, left, right) < Told.placeOf(x, 0, left, his);
        many += would && Told.placeOf(x, 1, right, left) < Told.placeOf(x, 1, right, hers) ? 1 : 0;
      }
    }
    return many;
  }

  private static void mended() {
    says("`int mended(int left)`: MENDED: how many times (left -1), whom a LEFT has then (NOT: nobody). BAD; LONG.", () -> {
      for (int n = 1; n <= 8; n++) {
        MatchLattice x = Told.of(n);
        Sentences.within("mended(left)", -1, n - 1, left -> x.mended(left));
        due("how many times", x.mended(-1), n);
        due("whom the last one has", x.mended(n - 1), n - 1);
        due("in thought", x.count(4), n);
      }
      MatchLattice y = Told.with(Told.ENDLESS);
      Sentences.within("mended(left) without an end", -1, 2, left -> y.mended(left));
      due("how many times", y.mended(-1), LONG);
      for (int left = 0; left < 3; left++) {
        due("whom a left has without an end", y.mended(left), LONG);
      }
      MatchLattice z = new MatchLattice();
      Told.handAll(z, "012");
      due("no times", z.mended(-1), 0);
      due("whom it has by hand", z.mended(2), 2);
      due("200 times", Told.with(Told.MENDED_200).mended(-1), 200);
      due("201 times", Told.with(Told.MENDED_201).mended(-1), LONG);
    });
    says("`int known()`: Which MATCH the HAND-MADE one is. NOT: none (not STABLE, or somebody is alone).", () -> {
      MatchLattice x = Told.with(Told.WHEEL);
      due("all alone", x.known(), NOT);
      String[] matches = {"012", "120", "201"};
      for (int m = 0; m < 3; m++) {
        Told.handAll(x, matches[m]);
        due(matches[m], x.known(), m);
      }
      Told.handAll(x, "021");
      due("not stable", x.known(), NOT);
      Told.handAll(x, "01-");
      due("one alone", x.known(), NOT);
      Told.handAll(x, "-12");
      due("the first one alone", x.known(), NOT);
      due("one of one, alone", Told.of(1).known(), NOT);
      MatchLattice y = Told.of(1);
      y.hand(0, 0);
      due("one of one", y.known(), 0);
      MatchLattice z = Told.with(Told.doubled(8));
      Told.handAll(z, "76543210");
      due("the last of 268", z.known(), 267);
      Told.handAll(z, "01234567");
      due("the first of 268", z.known(), 0);
    });
  }

  private static void image() {
    says("`int image()`: AN IMAGE is kept: n.", () -> {
      for (int n = 1; n <= 8; n++) {
        MatchLattice x = Told.of(n);
        due("image()", x.image(), n);
        x.size(9 - n);
        due("image() of another n", x.image(), 9 - n);
        x.size(n);
        due("the last one is kept", x.back(), 9 - n);
      }
      MatchLattice y = Told.with(Told.WHEEL);
      y.stir(0, 0, 0);
      y.undo();
      y.hand(0, 0);
      y.feed('l');
      String before = Told.wholeStateOf(y);
      y.image();
      due("nothing else is otherwise", Told.wholeStateOf(y), before);
    });
    says("`int back()`: It is laid back (there are no CHANGES then): n. STATE: there is none.", () -> {
      MatchLattice x = Told.with(Told.WHEEL);
      due("none", x.back(), STATE);
      x.hand(0, 1);
      x.image();
      x.stir(0, 0, 0);
      x.stir(1, 0, 0);
      x.undo();
      x.size(2);
      x.stir(0, 0, 0);
      x.stir(0, 0, 0);
      x.undo();
      due("back()", x.back(), 3);
      due("undo()", x.undo(), STATE);
      due("redo()", x.redo(), STATE);
      due("state", Told.stateOf(x), Told.WHEEL + " | 1-- | 3 0 0 0 2 | 3");
      x.stir(0, 0, 0);
      due("a change behind it is undone", x.undo(), 0);
      due("lists", Told.listsOf(x), Told.WHEEL);
      x.hand(1, 2);
      due("back() once more", x.back(), 3);
      due("by hand", Told.handOf(x), "1--");
    });
    says("`int count(int what)`: How many: 0 of each side, 1 bytes on THE TAPE, 2 CHANGES that may be UNDONE, 3 that may"
        + " be DONE AGAIN, 4 LEFTS that are alone by hand. BAD.", () -> {
      MatchLattice x = new MatchLattice();
      Sentences.within("count(what)", 0, 4, what -> x.count(what));
      due("at first", Told.countsOf(x), "3 0 0 0 3");
      MatchLattice y = Told.of(8);
      for (int i = 0; i < 130; i++) {
        y.feed('l');
      }
      for (int i = 0; i < 20; i++) {
        y.stir(0, 0, 0);
      }
      Told.handAll(y, "01234567");
      due("the most, but of those undone and alone", Told.countsOf(y), "8 120 12 0 0");
      for (int i = 0; i < 20; i++) {
        y.undo();
      }
      y.lists();
      y.hand(7, 0);
      due("all undone, one alone", Told.countsOf(y), "8 0 0 12 1");
    });
  }
}
