import java.io.IOException;
import java.util.ArrayList;
import java.util.List;

/**
 * Each sentence of ../shared/DOC.md ahead of its promises, that names a boundary case or an answer at one, has a
 * test of its own.
 */
public final class SentencesOfTerms {
  private static final int BAD = MatchLattice.BAD;
  private static final int NOT = MatchLattice.NOT;
  private static final int FULL = MatchLattice.FULL;
  private static final int STATE = MatchLattice.STATE;
  private static final int LONG = MatchLattice.LONG;

  public static void main(String[] args) throws IOException {
    Sentences.open();
    calls();
    listsAndMatches();
    askingBySides();
    turnsOfMatches();
    allTurns();
    closedSets();
    costs();
    betterAndWorse();
    inThought();
    byHand();
    mended();
    texts();
    faults();
    changes();
    keptChanges();
    answers();
    refusals();
    size();
    textsReadOneWay();
    handsReadOneWay();
    numbersReadOneWay();
    theTape();
    Sentences.close();
  }

  private static void says(String words, Sentences.Test test) {
    Sentences.says(words, test);
  }

  private static void due(String call, int got, int want) {
    Sentences.due(call, got, want);
  }

  private static void due(String what, String got, String want) {
    Sentences.due(what, got, want);
  }

  // ---- what it is

  private static void calls() {
    says("An object is used for at most 512 calls after it has been made", () -> {
      MatchLattice x = new MatchLattice();
      for (int call = 1; call <= 510; call++) {
        due("stir(0, 0, 0)", x.stir(0, 0, 0), call % 2);
      }
      due("the 511th call", x.undo(), 11);
      due("the 512th call", x.list(0, 0, 0), 1);
      MatchLattice y = Told.of(5);
      for (int call = 2; call <= 512; call++) {
        due("lie(4, 1)", y.lie(4, 1), 120);
      }
      MatchLattice z = Told.with(Told.ENDLESS);
      for (int call = 60; call <= 512; call++) {
        due("mended(-1)", z.mended(-1), LONG);
      }
      MatchLattice w = Told.with(Told.doubled(8));
      int before = w.stirred(0, 0, 0);
      for (int call = 210; call <= 512; call++) {
        due("stirred(0, 0, 0)", w.stirred(0, 0, 0), before);
      }
    });
  }

  // ---- 1

  private static void listsAndMatches() {
    says("LEFTS and RIGHTS, n of each (1 .. 8; 3 at first), numbers 0 .. n - 1.", () -> {
      due("n at first", new MatchLattice().count(0), 3);
      for (int n = 1; n <= 8; n++) {
        MatchLattice x = new MatchLattice();
        due("size(" + n + ")", x.size(n), 3);
        due("count(0)", x.count(0), n);
        Sentences.within("numbers of rights", 0, n - 1, right -> x.hand(0, right < 0 ? right - 1 : right));
        Sentences.within("numbers of lefts", 0, n - 1, left -> x.handed(left));
      }
      MatchLattice y = new MatchLattice();
      due("size(0)", y.size(0), BAD);
      due("size(9)", y.size(9), BAD);
      due("n then", y.count(0), 3);
    });
    says("Each has a LIST of all of the other side, the best first (0, 1, .. n - 1 at first)", () -> {
      due("lists at first", Told.listsOf(new MatchLattice()), "l0:012;l1:012;l2:012;r0:012;r1:012;r2:012");
      due("lists of one", Told.listsOf(Told.of(1)), "l0:0;r0:0");
      for (int n = 1; n <= 8; n++) {
        MatchLattice x = Told.of(n);
        for (int one = 0; one < n; one++) {
          due("a left's list", Told.listOf(x, 0, one), "01234567".substring(0, n));
          due("a right's list", Told.listOf(x, 1, one), "01234567".substring(0, n));
        }
      }
    });
    says("PLACE of one on a LIST: 0 the best.", () -> {
      due("a left has its best", Told.with("l0:10;l1:01;r0:10;r1:01").cost(0, 0), 0);
      due("a right has its best", Told.with("l0:10;l1:01;r0:10;r1:01").cost(0, 1), 0);
      due("the last of eight", Told.of(8).cost(0, 4), 7);
      due("the best place by a lie", Told.of(5).lie(0, 0), 0);
      due("the last place by a lie", Told.of(5).lie(4, 0), 4);
    });
    says("One would RATHER have whose PLACE is less; one who is alone would RATHER have anybody.", () -> {
      for (int n = 1; n <= 8; n++) {
        due("all alone, " + n + " of each", Told.of(n).blocking(), n * n);
      }
      MatchLattice x = new MatchLattice();
      x.hand(0, 2);
      due("r2 would rather have l0 than those alone; all others are alone or have their last", x.blocking(), 6);
      MatchLattice y = new MatchLattice();
      y.hand(2, 2);
      due("r2 would rather have both others, l2 both other rights", y.blocking(), 8);
      MatchLattice z = new MatchLattice();
      z.hand(0, 0);
      due("both have their best", z.blocking(), 4);
    });
    says("A MATCH: each LEFT has one RIGHT, no RIGHT has two.", () -> {
      for (String lists : new String[] {Told.doubled(4), Told.turned(6), Told.FORK, "l0:0;r0:0"}) {
        MatchLattice x = Told.with(lists);
        for (int m = 0; m < x.match(-1); m++) {
          int rights = 0;
          for (int left = 0; left < x.count(0); left++) {
            rights |= 1 << x.has(m, 0, left);
            due("the left of the right of a left", x.has(m, 1, x.has(m, 0, left)), left);
          }
          due("rights in match " + m, rights, (1 << x.count(0)) - 1);
        }
      }
    });
    says("A LEFT and a RIGHT BLOCK a MATCH, if they don't have each other and each would RATHER have the other than"
        + " what it has.", () -> {
      MatchLattice one = Told.of(1);
      due("both alone", one.blocking(), 1);
      one.hand(0, 0);
      due("they have each other", one.blocking(), 0);
      MatchLattice x = Told.with("l0:01;l1:01;r0:01;r1:01");
      Told.handAll(x, "10");
      due("l0 and r0 both would", x.blocking(), 1);
      Told.handAll(x, "01");
      due("l1 would, r0 would not", x.blocking(), 0);
      MatchLattice y = Told.with("l0:10;l1:01;r0:01;r1:01");
      Told.handAll(y, "10");
      due("r0 would, l0 would not", y.blocking(), 0);
    });
    says("STABLE: nobody blocks it.", () -> {
      MatchLattice x = Told.with(Told.doubled(4));
      int stable = 0;
      for (String rights : orders(4)) {
        Told.handAll(x = Told.with(Told.doubled(4)), rights);
        boolean known = x.known() >= 0;
        due(rights + " is blocked by nobody", x.blocking() == 0 ? 1 : 0, known ? 1 : 0);
        due(rights + " has no first who block", x.blocks() == NOT ? 1 : 0, known ? 1 : 0);
        stable += known ? 1 : 0;
      }
      due("all that are stable", stable, x.match(-1));
    });
  }

  private static List<String> orders(int n) {
    List<String> all = new ArrayList<>();
    addOrders("01234567".substring(0, n), "", all);
    return all;
  }

  private static void addOrders(String rest, String begun, List<String> all) {
    if (rest.isEmpty()) {
      all.add(begun);
    }
    for (int i = 0; i < rest.length(); i++) {
      addOrders(rest.substring(0, i) + rest.substring(i + 1), begun + rest.charAt(i), all);
    }
  }

  private static void askingBySides() {
    says("ASKING by a side (0 LEFTS, 1 RIGHTS): all are alone", () -> {
      MatchLattice x = Told.with(Told.LIAR);
      Told.handAll(x, "210");
      due("lefts ask", Told.askingOf(x, 0), "1 111 200 210 221");
      due("rights ask", Told.askingOf(x, 1), "11 101 200 210 221");
      due("all have by hand whom they had", Told.handOf(x), "210");
    });
    says("as long as one of the side is alone, the least of these asks the first on its LIST whom it didn't ask yet",
        () -> {
      due("one of each", Told.askingOf(Told.of(1), 0), "1");
      due("one of each, rights", Told.askingOf(Told.of(1), 1), "1");
      due("like lists", Told.askingOf(new MatchLattice(), 0), "1 100 111 200 210 221");
      due("like lists of eight", Told.of(8).asking(0, -1), 36);
      due("the last one asks the last one", Told.of(8).asking(0, 35), 771);
      MatchLattice x = Told.with("l0:012;l1:012;l2:012;r0:210;r1:012;r2:012");
      due("l0 comes again ahead of l2", Told.askingOf(x, 0), "1 101 11 201 110 121");
      MatchLattice y = Told.with(Told.muchAsked(8));
      due("as often as eight can", y.asking(0, -1), 57);
      due("l0, to whom all others said no at last, asks the last one", y.asking(0, 56), 71);
      due("behind it", y.asking(0, 57), NOT);
    });
    says("who says yes, if it would RATHER have the asker (whom it had is alone then), else no.", () -> {
      due("r0 takes the second and the third one",
          Told.askingOf(Told.with("l0:012;l1:012;l2:012;r0:210;r1:012;r2:012"), 0), "1 101 11 201 110 121");
      due("r0 says no to both", Told.askingOf(new MatchLattice(), 0), "1 100 111 200 210 221");
    });
    says("What comes of it is that side's BEST (it is STABLE; all of the side have the best they can have in any"
        + " STABLE MATCH).", () -> {
      for (String lists : new String[] {Told.WHEEL, Told.doubled(4), Told.FORK, Told.turned(5), "l0:0;r0:0"}) {
        for (int side = 0; side < 2; side++) {
          MatchLattice x = Told.with(lists);
          String best = Told.bestOf(x, side);
          for (int one = 0; one < x.count(0); one++) {
            int who = x.best(side, one, side == 0 ? 0 : -1);
            int ahead = (1 << Told.placeOf(x, side, one, who)) - 1;
            int may = x.may(side, one);
            for (int place = 0; place < x.count(0); place++) {
              boolean could = (may >> x.list(side, one, place) & 1) == 1;
              due("better ones that may be had", could ? ahead >> place & 1 : 0, 0);
            }
          }
          Told.handAll(x, best);
          due("who blocks " + best, x.blocks(), NOT);
        }
      }
    });
  }

  // ---- 2

  private static void turnsOfMatches() {
    says("NEXT of a LEFT: the first RIGHT on its LIST behind the one it has who would RATHER have it than the one she"
        + " has (none: it has no NEXT).", () -> {
      due("one alone has no next", Told.of(1).exposed(0), 0);
      due("none would rather", Told.of(8).exposed(0), 0);
      MatchLattice x = Told.with(Told.doubled(2));
      due("both have a next", x.exposed(0), 1);
      due("both have their last", x.exposed(1), 0);
      MatchLattice y = Told.with(Told.APART);
      due("l1 passes over r2, who would not", Told.turnOf(y, 1), "10 33");
      due("l1 has r3 then", Told.matchOf(y, 2), "1320");
    });
    says("A LEFT's FOLLOWER: the LEFT that NEXT has.", () -> {
      MatchLattice x = Told.with(Told.TAIL);
      due("l1, and l2, who has the next of l1", Told.turnOf(x, 0), "11 20");
      due("l0, who follows on nobody, is in no turn", x.rounds(-1), 1);
      due("l0 keeps r2", Told.matchOf(x, 1), "201");
    });
    says("A TURN: two or more unlike LEFTS, each the FOLLOWER of the one ahead, the first that of the last, begun with"
        + " the least", () -> {
      due("no turn of one", Told.of(1).rounds(-1), 0);
      due("a turn of two", Told.with(Told.doubled(2)).rounds(0), 2);
      due("a turn of eight", Told.with(Told.turned(8)).rounds(0), 8);
      due("as it goes round, not by numbers", Told.turnOf(Told.with(Told.UNEVEN), 0), "02 21 10");
      due("the least of those in it", Told.turnOf(Told.with(Told.TAIL), 0), "11 20");
    });
    says("its PAIRS: each of them and the RIGHT it has.", () -> {
      MatchLattice x = Told.with(Told.turned(8));
      due("the first turn", Told.turnOf(x, 0), "00 11 22 33 44 55 66 77");
      due("the last turn", Told.turnOf(x, 6), "06 17 20 31 42 53 64 75");
    });
    says("DONE: each of them has its NEXT instead (a STABLE MATCH again).", () -> {
      due("the last one has the first one's", Told.matchOf(Told.with(Told.UNEVEN), 1), "120");
      due("eight at once", Told.matchOf(Told.with(Told.turned(8)), 1), "12345670");
      for (String lists : new String[] {Told.doubled(4), Told.FORK, Told.GAINING_FIRST}) {
        MatchLattice x = Told.with(lists);
        for (int m = 0; m < x.match(-1); m++) {
          MatchLattice y = Told.with(lists);
          Told.handAll(y, Told.matchOf(x, m));
          due("who blocks match " + m, y.blocks(), NOT);
        }
      }
    });
    says("EXPOSED are TURNS in a MATCH, in order of their first LEFT.", () -> {
      MatchLattice x = Told.with(Told.TWO_PAIRS);
      due("the one of l0", Told.turnOf(x, 0), "00 11");
      due("the one of l2", Told.turnOf(x, 1), "22 33");
      MatchLattice y = Told.with(Told.NESTED);
      due("the one of l0, whose other left is greater", Told.turnOf(y, 0), "00 33");
      due("the one of l1", Told.turnOf(y, 1), "11 22");
      due("both are exposed", y.exposed(0), 3);
      MatchLattice z = Told.with(Told.doubled(8));
      due("of l0, l2, and, behind all of l0 .. l3, of l4, l6", z.exposed(0), 1 + 2 + 64 + 128);
      due("none is exposed at the end", z.exposed(267), 0);
    });
    says("Two TURNS are the same, if their PAIRS are.", () -> {
      MatchLattice x = Told.with(Told.TWO_PAIRS);
      due("turn 1 in match 0", x.exposed(0) & 2, 2);
      due("turn 1 in match 1", x.exposed(1), 2);
      due("turn 0 in match 2", x.exposed(2), 1);
      due("two in all", x.rounds(-1), 2);
      MatchLattice y = Told.with(Told.WHEEL);
      due("the same lefts, other rights", y.rounds(-1), 2);
      due("turn 0", Told.turnOf(y, 0), "00 11 22");
      due("turn 1", Told.turnOf(y, 1), "01 12 20");
    });
  }

  private static void allTurns() {
    says("ALL TURNS: from the LEFTS' BEST on the first EXPOSED one is DONE, again and again, until there is none (that"
        + " is the RIGHTS' BEST)", () -> {
      due("the lefts' best is the rights'", new MatchLattice().rounds(-1), 0);
      for (String lists : new String[] {Told.WHEEL, Told.doubled(4), Told.FORK, Told.turned(8)}) {
        MatchLattice x = Told.with(lists);
        String rights = Told.bestOf(x, 0);
        for (int t = 0; t < x.rounds(-1); t++) {
          rights = Told.behind(rights, Told.turnOf(x, t));
        }
        due("all turns done", rights, Told.bestOf(x, 1));
        due("the last match", Told.matchOf(x, x.match(-1) - 1), rights);
      }
      MatchLattice y = Told.with(Told.FORK);
      due("the first exposed ones first", Told.turnOf(y, 1) + ", " + Told.turnOf(y, 2) + ", " + Told.turnOf(y, 3),
          "02 41, 01 20, 13 34");
    });
    says("TURNS 0, 1, .. as they come (28 at most; each is DONE so just once, whatever the order).", () -> {
      MatchLattice x = Told.with(Told.doubled(8));
      due("28 turns", x.rounds(-1), 28);
      due("the 28th has two pairs", x.rounds(27), 2);
      due("behind it", x.rounds(28), NOT);
      List<String> met = new ArrayList<>();
      for (int t = 0; t < 28; t++) {
        String turn = Told.turnOf(x, t);
        due("turn " + turn + " came already", met.contains(turn) ? 1 : 0, 0);
        met.add(turn);
      }
      due("all of them lead to the last match", x.match(267), (1 << 28) - 1);
    });
    says("TURN a is AHEAD of b (an unlike one): b is EXPOSED in no MATCH that comes of the LEFTS' BEST by TURNS other"
        + " than a.", () -> {
      due("they share no left", Told.with(Told.APART).ahead(1), 1);
      due("nor do these", Told.with(Told.PASSED_OVER).ahead(1), 1);
      due("none of two is ahead", Told.with(Told.TWO_PAIRS).ahead(1), 0);
      due("nor of these", Told.with(Told.PASSED_BOTH).ahead(1), 0);
      for (String lists : new String[] {Told.doubled(4), Told.doubled(8), Told.FORK, Told.GAINING_FIRST, Told.APART,
          Told.APART_OF_FIVE, Told.APART_OF_SIX, Told.PASSED_OVER, Told.PASSED_BOTH}) {
        aheadByMatches(lists);
      }
    });
    says("DEPTH of a TURN: how many stand one AHEAD of the other up to it, at most (0: none is AHEAD of it).", () -> {
      MatchLattice x = Told.with(Told.FORK);
      due("none is ahead", x.of(0, 0), 0);
      due("0 is ahead", x.of(1, 0), 1);
      due("0 and 1 are ahead", x.of(2, 0), 2);
      due("0 is ahead", x.of(3, 0), 1);
      due("0, 1, 2 and 0, 3 are ahead", x.of(4, 0), 3);
      MatchLattice y = Told.with(Told.TWO_PAIRS);
      due("none is ahead of either", y.of(0, 0) + y.of(1, 0), 0);
      MatchLattice z = Told.with(Told.doubled(4));
      due("two are ahead, but not of each other", z.of(2, 0), 1);
      for (int t = 0; t < 7; t++) {
        due("in a row of seven", Told.with(Told.turned(8)).of(t, 0), t);
      }
    });
  }

  private static void aheadByMatches(String lists) {
    int total = Told.with(lists).match(-1);
    int[] bits = new int[total];
    int[] open = new int[total];
    MatchLattice x = null;
    for (int m = 0; m < total; m++) {
      x = m % 100 == 0 ? Told.with(lists) : x;
      bits[m] = x.match(m);
      open[m] = x.exposed(m);
    }
    x = Told.with(lists);
    int turns = x.rounds(-1);
    for (int b = 0; b < turns; b++) {
      int ahead = (1 << turns) - 1 & ~(1 << b);
      for (int m = 0; m < total; m++) {
        ahead &= (open[m] >> b & 1) == 1 ? bits[m] : -1;
      }
      due("ahead of " + b + " in " + lists, x.ahead(b), ahead);
    }
  }

  private static void closedSets() {
    says("CLOSED: a set of TURNS (BITS: of TURN t 2 to the t, together) with all that are AHEAD of one of it.", () -> {
      for (String lists : new String[] {Told.doubled(4), Told.FORK, Told.WHEEL, Told.TWO_PAIRS, Told.turned(8)}) {
        MatchLattice x = Told.with(lists);
        int m = 0;
        for (int set = 0; set < 1 << x.rounds(-1); set++) {
          boolean closed = true;
          for (int t = 0; t < x.rounds(-1); t++) {
            closed &= (set >> t & 1) == 0 || (x.ahead(t) & ~set) == 0;
          }
          if (closed) {
            due("match(" + m + ")", x.match(m), set);
            m++;
          }
          x = Told.with(lists);
        }
        due("no more of them", x.match(-1), m);
      }
    });
    says("Its MATCH: those TURNS DONE from the LEFTS' BEST on, by numbers.", () -> {
      for (String lists : new String[] {Told.doubled(4), Told.FORK, Told.TWO_PAIRS}) {
        for (int m = 0; m < Told.with(lists).match(-1); m++) {
          MatchLattice x = Told.with(lists);
          String rights = Told.bestOf(x, 0);
          for (int t = 0; t < x.rounds(-1); t++) {
            rights = (x.match(m) >> t & 1) == 1 ? Told.behind(rights, Told.turnOf(x, t)) : rights;
          }
          due("match " + m, Told.matchOf(x, m), rights);
        }
      }
      due("no turn done", Told.matchOf(Told.with(Told.FORK), 0), Told.bestOf(Told.with(Told.FORK), 0));
    });
    says("So each STABLE MATCH comes of just one CLOSED set: MATCHES 0, 1, .. are all of them, by BITS, the least"
        + " first.", () -> {
      due("match(0)", new MatchLattice().match(0), 0);
      due("one alone", new MatchLattice().match(-1), 1);
      List<String> met = new ArrayList<>();
      MatchLattice x = null;
      int last = -1;
      for (int m = 0; m < 268; m++) {
        x = m % 20 == 0 ? Told.with(Told.doubled(8)) : x;
        due("match(" + m + ") is greater than the one ahead", x.match(m) > last ? 1 : 0, 1);
        last = x.match(m);
        String rights = Told.matchOf(x, m);
        due("match " + rights + " came already", met.contains(rights) ? 1 : 0, 0);
        met.add(rights);
      }
      due("how many", x.match(-1), 268);
      due("behind them", x.match(268), NOT);
    });
  }

  // ---- 3

  private static void costs() {
    says("COSTS of a MATCH: 0 all PLACES of RIGHTS on LISTS of LEFTS that have them, together; 1 the same of LEFTS on"
        + " LISTS of RIGHTS; 2 both together; 3 one less the other, without its sign; 4 the greatest PLACE of both"
        + " sides.", () -> {
      due("of one", costsOf(Told.of(1), 0), "0 0 0 0 0");
      due("lefts have their best", costsOf(Told.with(Told.doubled(8)), 0), "0 56 56 56 7");
      due("rights have their best", costsOf(Told.with(Told.doubled(8)), 267), "56 0 56 56 7");
      due("like lists", costsOf(Told.of(8), 0), "28 28 56 0 7");
      due("as well as can be", costsOf(Told.with("l0:10;l1:01;r0:10;r1:01"), 0), "0 0 0 0 0");
      due("the greatest is a left's", costsOf(Told.with("l0:012;l1:012;l2:012;r0:012;r1:102;r2:201"), 0), "3 0 3 3 2");
      due("the greatest is a right's", costsOf(Told.with("l0:012;l1:102;l2:201;r0:012;r1:012;r2:012"), 0),
          "0 3 3 3 2");
    });
    says("PICK by a COST: the MATCH of the least, of like ones the first.", () -> {
      due("of one match", picksOf(new MatchLattice()), "0 0 0 0 0");
      due("like sums: the first of all", Told.with(Told.WHEEL).pick(2), 0);
      due("like sums: 1 and 2", Told.with(Told.LIKE_SUMS).pick(2), 1);
      due("like differences: 1 and 2", Told.with(Told.LIKE_DIFFERENCES).pick(3), 1);
      due("like greatest ones: 1 and 2", Told.with(Told.NOTHING_GAINED).pick(4), 1);
      due("the last one of all", Told.with(Told.doubled(8)).pick(1), 267);
      for (String lists : new String[] {Told.FORK, Told.doubled(4), Told.LIKE_SUMS, Told.LIKE_DIFFERENCES,
          Told.NOTHING_GAINED, Told.GAINING_FIRST, Told.LOSING_FIRST}) {
        picksByCosts(lists);
      }
    });
    says("GAIN of a TURN: by how much COST 2 is less behind it than ahead (it may be below 0; it is the same wherever it"
        + " is DONE).", () -> {
      due("above 0", Told.with(Told.GAINING).of(0, 1), 1001);
      due("0", Told.with(Told.WHEEL).of(0, 1), 1000);
      due("below 0", Told.with(Told.LOSING).of(0, 1), 999);
      due("far above 0", Told.with("l0:01;l1:10;r0:10;r1:01").of(0, 1), 1000);
      for (String lists : new String[] {Told.FORK, Told.doubled(4), Told.GAINING_FIRST, Told.LOSING_FIRST}) {
        gainsByCosts(lists);
      }
    });
    says("MOST: the greatest sum of GAINS of a CLOSED set (0 of none).", () -> {
      due("no turns", new MatchLattice().most(), 0);
      due("one that loses", Told.with(Told.LOSING).most(), 0);
      due("one that gains", Told.with(Told.GAINING).most(), 1);
      due("-1, and 2 behind it", Told.with(Told.LOSING_FIRST).most(), 1);
      due("1, and -2 and 1 behind it", Told.with(Told.GAINING_FIRST).most(), 1);
      due("-1, and 1 behind it", Told.with(Told.NOTHING_GAINED).most(), 0);
    });
  }

  private static String costsOf(MatchLattice x, int m) {
    return x.cost(m, 0) + " " + x.cost(m, 1) + " " + x.cost(m, 2) + " " + x.cost(m, 3) + " " + x.cost(m, 4);
  }

  private static String picksOf(MatchLattice x) {
    return x.pick(0) + " " + x.pick(1) + " " + x.pick(2) + " " + x.pick(3) + " " + x.pick(4);
  }

  private static void picksByCosts(String lists) {
    MatchLattice x = Told.with(lists);
    for (int which = 0; which < 5; which++) {
      int picked = 0;
      for (int m = 1; m < x.match(-1); m++) {
        picked = x.cost(m, which) < x.cost(picked, which) ? m : picked;
      }
      due("pick(" + which + ") of " + lists, x.pick(which), picked);
    }
  }

  private static void gainsByCosts(String lists) {
    for (int m = 0; m < Told.with(lists).match(-1); m++) {
      MatchLattice x = Told.with(lists);
      for (int t = 0; t < x.rounds(-1); t++) {
        if ((x.exposed(m) >> t & 1) == 1) {
          int behind = m + 1;
          while (x.match(behind) != (x.match(m) | 1 << t)) {
            behind++;
          }
          due("gain of " + t + " in match " + m, x.of(t, 1), 1000 + x.cost(m, 2) - x.cost(behind, 2));
        }
      }
    }
  }

  private static void betterAndWorse() {
    says("Of two MATCHES: BETTER: each LEFT has of its two RIGHTS the one it would RATHER have; WORSE: the other one; of"
        + " three the MIDDLE one (all are MATCHES again).", () -> {
      String lists = Told.doubled(4);
      for (int a = 0; a < 10; a++) {
        for (int b = 0; b < 10; b++) {
          MatchLattice x = Told.with(lists);
          due("better of " + a + " and " + b, Told.matchOf(x, x.either(a, b, 0)), ranked(x, 0, a, b));
          due("worse of " + a + " and " + b, Told.matchOf(x, x.either(a, b, 1)), ranked(x, 1, a, b));
          for (int c = 0; c < 10; c += 3) {
            x = Told.with(lists);
            due("middle of " + a + ", " + b + ", " + c, Told.matchOf(x, x.middle(a, b, c)), ranked(x, 1, a, b, c));
          }
        }
      }
      due("of one match alone", new MatchLattice().either(0, 0, 1) + new MatchLattice().middle(0, 0, 0), 0);
    });
  }

  /** The match in which each left has the rank-th of its rights in some matches, by its list. */
  private static String ranked(MatchLattice x, int rank, int... matches) {
    StringBuilder rights = new StringBuilder();
    int n = x.count(0);
    for (int left = 0; left < n; left++) {
      int ahead = 0;
      for (int place = 0; place < n; place++) {
        int right = x.list(0, left, place);
        for (int m : matches) {
          if (x.has(m, 0, left) == right && ahead++ == rank) {
            rights.append(right);
          }
        }
      }
    }
    return rights.toString();
  }

  private static void inThought() {
    says("A LIE of a RIGHT (n 5 at most, else LONG)", () -> {
      for (int n = 1; n <= 5; n++) {
        due("lie of " + n, Told.of(n).lie(n - 1, 0), n - 1);
      }
      for (int n = 6; n <= 8; n++) {
        due("place by a lie of " + n, Told.of(n).lie(n - 1, 0), LONG);
        due("lists of a lie of " + n, Told.of(n).lie(0, 1), LONG);
      }
    });
    says("whatever LIST it told, all others as they are: the LEFTS' BEST then; the best it could have so, by its LIST as"
        + " it is (PLACE); how many LISTS bring that.", () -> {
      for (String lists : new String[] {Told.LIAR, Told.WHEEL, Told.APART, Told.GAINING_FIRST, Told.doubled(4),
          Told.FORK, Told.turned(5), Told.LIAR_OF_FIVE}) {
        for (int right = 0; right < Told.with(lists).count(0); right++) {
          lieByLists(lists, right);
        }
      }
      due("all lists of five bring the last one", Told.of(5).lie(4, 1), 120);
      due("all that don't matter", Told.with(Told.LIAR).lie(2, 1), 6);
    });
    says("STIRRED: two neighbours on a LIST changed, in thought: how many MATCHES there are then.", () -> {
      for (String lists : new String[] {Told.WHEEL, Told.doubled(4)}) {
        MatchLattice x = Told.with(lists);
        String before = Told.stateOf(x);
        for (int side = 0; side < 2; side++) {
          for (int place = 0; place < x.count(0) - 1; place++) {
            int last = x.count(0) - 1;
            MatchLattice y = Told.with(lists);
            y.stir(side, last, place);
            due("stirred(" + side + ", " + last + ", " + place + ")", x.stirred(side, last, place), y.match(-1));
          }
        }
        due("lists, hands, counts, matches", Told.stateOf(x), before);
      }
      due("one match more", Told.with("l0:10;l1:10;r0:10;r1:01").stirred(0, 0, 0), 2);
      due("one match less", Told.with(Told.doubled(2)).stirred(0, 0, 0), 1);
    });
  }

  private static void lieByLists(String lists, int right) {
    int best = 8;
    int many = 0;
    int n = Told.with(lists).count(0);
    for (String order : orders(n)) {
      MatchLattice x = Told.with(lists);
      Told.tell(x, "r" + right + ":" + order);
      int left = x.best(0, right, -1);
      x.undo();
      int place = Told.placeOf(x, 1, right, left);
      many = place < best ? 1 : place == best ? many + 1 : many;
      best = Math.min(place, best);
    }
    due("lie(" + right + ", 0) of " + lists, Told.with(lists).lie(right, 0), best);
    due("lie(" + right + ", 1) of " + lists, Told.with(lists).lie(right, 1), many);
  }

  // ---- 4

  private static void byHand() {
    says("A HAND-MADE MATCH: a LEFT has a RIGHT, or is alone (all at first, and when n is told)", () -> {
      due("at first", Told.handOf(new MatchLattice()), "---");
      for (int n = 1; n <= 8; n++) {
        MatchLattice x = new MatchLattice();
        Told.handAll(x, "210");
        x.size(n);
        due("n is told", Told.handOf(x), "--------".substring(0, n));
        due("alone", x.count(4), n);
      }
    });
    says("who takes one that another one has, leaves that one alone.", () -> {
      MatchLattice x = new MatchLattice();
      Told.handAll(x, "012");
      due("l2 takes r0", x.hand(2, 0), 2);
      due("l0 is alone", Told.handOf(x), "-10");
      due("r2 is alone, too: l0 takes her from nobody", x.hand(0, 2), NOT);
      due("all three", Told.handOf(x), "210");
    });
    says("Who BLOCKS it: the first LEFT and RIGHT (by LEFTS, then RIGHTS).", () -> {
      MatchLattice x = new MatchLattice();
      due("all alone", x.blocks(), 0);
      Told.handAll(x, "0--");
      due("l1 and r1, l1 and r2, l2 and both", x.blocks(), 11);
      Told.handAll(x, "021");
      due("l1 and r1", x.blocks(), 11);
      Told.handAll(x, "-10");
      due("l0 and all three", x.blocks(), 0);
      MatchLattice y = Told.with("l0:210;l1:012;l2:012;r0:012;r1:012;r2:210");
      Told.handAll(y, "012");
      due("r1, though l0 would rather have r2, who would not", y.blocks(), 1);
      MatchLattice z = Told.of(8);
      Told.handAll(z, "0123456-");
      due("the last ones", z.blocks(), 77);
    });
  }

  private static void mended() {
    says("MENDED in thought: as long as somebody blocks it, the first of these have each other, those whom they had are"
        + " alone: how many times (200 at most, else LONG); who has whom then.", () -> {
      due("one of each", Told.of(1).mended(-1), 1);
      due("200 times", Told.with(Told.MENDED_200).mended(-1), 200);
      due("201 times", Told.with(Told.MENDED_201).mended(-1), LONG);
      due("who has whom behind 200", Told.with(Told.MENDED_200).mended(7) >= 0 ? 1 : 0, 1);
      due("who has whom behind 201", Told.with(Told.MENDED_201).mended(7), LONG);
      due("without an end", Told.with(Told.ENDLESS).mended(-1), LONG);
      MatchLattice x = Told.with("l0:01;l1:01;r0:10;r1:01");
      due("l0 and r0, l1 and r0, l0 and r1", x.mended(-1), 3);
      due("l0 has r1 then", x.mended(0), 1);
      due("l1 has r0 then", x.mended(1), 0);
      due("in thought", Told.handOf(x), "--");
      mendedByHand(Told.MENDED_200);
      mendedByHand(Told.FORK);
      mendedByHand(Told.APART);
      mendedByHand(Told.turned(8));
    });
  }

  /** The same by hand: who blocks first have each other, until nobody does. */
  private static void mendedByHand(String lists) {
    MatchLattice x = Told.with(lists);
    String rights = Told.handOf(x);
    int times = 0;
    while (x.blocks() != NOT && times <= 200) {
      int block = x.blocks();
      x.hand(block / 10, block % 10);
      times++;
      if (times % 50 == 0) {
        rights = Told.handOf(x);
        x = Told.with(lists);
        Told.handAll(x, rights);
      }
    }
    rights = Told.handOf(x);
    due("mended(-1) of " + lists, Told.with(lists).mended(-1), times > 200 ? LONG : times);
    for (int left = 0; left < rights.length(); left++) {
      due("mended(" + left + ")", Told.with(lists).mended(left), times > 200 ? LONG : rights.charAt(left) - '0');
    }
  }

  private static void texts() {
    says("A TEXT of LISTS, by THE TAPE (120 bytes at most)", () -> {
      MatchLattice x = Told.of(8);
      StringBuilder text = new StringBuilder("l0:76543210");
      for (int one = 1; one < 10; one++) {
        text.append(';').append(one < 8 ? 'l' : 'r').append(one % 8).append(":76543210");
      }
      Told.feed(x, text + "!");
      due("119 bytes and one", x.count(1), 120);
      due("no more", x.feed('!'), FULL);
      due("the last byte is looked at", x.lists(), -219);
      due("119 bytes", Told.tell(x, text.toString()), 10);
      MatchLattice y = Told.of(1);
      StringBuilder ones = new StringBuilder("l0:0");
      for (int line = 1; line < 24; line++) {
        ones.append(line % 2 == 0 ? ";l0:0" : ";r0:0");
      }
      due("24 lines of one", Told.tell(y, ones.toString()), 24);
      due("24 lines and a sign", Told.tell(y, ones + ";"), -220);
    });
    says("LINE { ; LINE }, LINE: l or r, a number, :, all numbers of the other side in any order (figures alone, nothing"
        + " between).", () -> {
      MatchLattice x = new MatchLattice();
      due("one line", Told.tell(x, "l2:201"), 1);
      due("two lines", Told.tell(x, "r0:210;l0:102"), 2);
      due("lists", Told.listsOf(x), "l0:102;l1:012;l2:201;r0:210;r1:012;r2:012");
      for (String order : orders(3)) {
        due("any order", Told.tell(x, "l1:" + order), 1);
        due("list of l1", Told.listOf(x, 0, 1), order);
      }
      due("of eight", Told.tell(Told.of(8), "r7:70615243"), 1);
      due("of one", Told.tell(Told.of(1), "r0:0"), 1);
      due("a comma between", Told.tell(x, "l0:0,12"), -104);
      due("a blank between", Told.tell(x, "l0: 012"), -103);
      due("no side", Told.tell(x, "m0:012"), -100);
      due("a number ahead", Told.tell(x, "0:012"), -100);
      due("no colon", Told.tell(x, "l0;012"), -102);
      due("no semicolon", Told.tell(x, "l0:012,l1:012"), -106);
      due("nothing behind the semicolon", Told.tell(x, "l0:012;"), -107);
      due("a semicolon ahead", Told.tell(x, ";l0:012"), -100);
    });
  }

  private static void faults() {
    says("FAULT: a figure that is no number of the side, or stands in that LINE already: its place", () -> {
      for (int n = 1; n <= 8; n++) {
        String figures = "01234567".substring(0, n);
        String all = "l0:" + figures;
        due("no number behind l, " + n, Told.tell(Told.of(n), "l" + n + ":" + figures), -101);
        due("no number behind r, " + n, Told.tell(Told.of(n), all + ";r" + n), -100 - all.length() - 2);
        due("the figure 9", Told.tell(Told.of(n), "r9:" + figures), -101);
        for (int place = 0; place < n; place++) {
          String begun = "r0:" + figures.substring(0, place);
          due("a figure that is none", Told.tell(Told.of(n), begun + n + figures), -103 - place);
          due("the figure 9", Told.tell(Told.of(n), begun + "9"), -103 - place);
          for (int twice = 0; twice < place; twice++) {
            due("a figure twice", Told.tell(Told.of(n), begun + twice + figures), -103 - place);
          }
        }
      }
      due("in a LINE behind", Told.tell(new MatchLattice(), "l0:012;l1:011"), -112);
      due("in another LINE already is well", Told.tell(new MatchLattice(), "l0:012;l1:012"), 2);
    });
    says("otherwise the first byte with which no TEXT goes on", () -> {
      String text = "l1:201;r2:120";
      for (int at = 0; at <= text.length(); at++) {
        String rest = at == text.length() ? "" : text.substring(at + 1);
        for (char sign : new char[] {' ', '/', '~', 'L', 'x'}) {
          due("sign " + sign + " at " + at, Told.tell(new MatchLattice(), text.substring(0, at) + sign + rest),
              -100 - at);
        }
      }
      due("a colon for a figure, the figure behind 9", Told.tell(Told.of(8), "l0:0123456:"), -110);
      due("figures are too many", Told.tell(new MatchLattice(), "l0:0121"), -106);
    });
    says("the length, if it ends too early.", () -> {
      String text = "l1:201;r2:120";
      for (int length = 0; length < text.length(); length++) {
        int due = length == 6 ? 1 : -100 - length;
        due(length + " bytes", Told.tell(new MatchLattice(), text.substring(0, length)), due);
      }
      due("nothing, behind a text", emptyBehind(text), -100);
      due("a shorter one, behind a text", shorterBehind(text), -104);
    });
    says("Of several LINES of one the last counts.", () -> {
      MatchLattice x = new MatchLattice();
      due("three lines", Told.tell(x, "l0:210;l0:120;l0:102"), 3);
      due("the last", Told.listOf(x, 0, 0), "102");
      due("not side by side", Told.tell(x, "r1:210;l0:012;r1:201"), 3);
      due("the last", Told.listOf(x, 1, 1), "201");
    });
  }

  /** What comes of the lists of both sides. */
  private static String ofLists(MatchLattice x) {
    int n = x.count(0);
    StringBuilder all = new StringBuilder(Told.bestOf(x, 0) + " " + Told.bestOf(x, 1) + " " + x.asking(1, -1));
    for (int t = x.rounds(-1) - 1; t >= 0; t--) {
      all.append(", ").append(Told.turnOf(x, t)).append(": ").append(x.ahead(t));
      all.append(' ').append(x.of(t, 0)).append(' ').append(x.of(t, 1));
    }
    for (int m = x.match(-1) - 1; m >= 0; m--) {
      all.append("; ").append(x.match(m)).append(": ").append(costsOf(x, m)).append(" ").append(x.exposed(m));
    }
    for (int one = 0; one < n; one++) {
      all.append(' ').append(x.may(0, one)).append(' ').append(x.may(1, one));
    }
    all.append("; ").append(picksOf(x)).append(' ').append(x.most()).append(' ').append(x.fixed());
    all.append("; ").append(x.blocking()).append(' ').append(x.mended(-1)).append(' ').append(x.known());
    return all.append("; ").append(x.lie(n - 1, 0)).append(' ').append(x.lie(n - 1, 1)).toString();
  }

  private static int emptyBehind(String text) {
    MatchLattice x = new MatchLattice();
    Told.tell(x, text);
    return x.lists();
  }

  private static int shorterBehind(String text) {
    MatchLattice x = new MatchLattice();
    Told.tell(x, text);
    return Told.tell(x, text.substring(0, 4));
  }

  private static void changes() {
    says("CHANGES of LISTS (by a TEXT, by stir(); each call is one) can be UNDONE, the latest first", () -> {
      MatchLattice x = new MatchLattice();
      Told.tell(x, "l0:210;r0:120;l2:021");
      x.stir(0, 1, 1);
      due("two changes", x.count(2), 2);
      due("the stir first", x.undo(), 1);
      due("then", Told.listsOf(x), "l0:210;l1:012;l2:021;r0:120;r1:012;r2:012");
      due("all lines of the text at once", x.undo(), 0);
      due("then", Told.listsOf(x), "l0:012;l1:012;l2:012;r0:012;r1:012;r2:012");
      due("nothing more", x.undo(), STATE);
      MatchLattice y = Told.with(Told.GAINING);
      String before = ofLists(y);
      due("a text", Told.tell(y, "l0:210;l1:012;l2:102;r0:210;r1:021;r2:120"), 6);
      String behind = ofLists(y);
      due("a text that changes all", behind.equals(before) ? 1 : 0, 0);
      y.undo();
      due("all that comes of lists undone", ofLists(y), before);
      y.redo();
      due("all that comes of lists done again", ofLists(y), behind);
      y.undo();
      y.undo();
      y.undo();
      due("all that comes of lists as at first", ofLists(y), ofLists(Told.of(3)));
    });
    says("and DONE AGAIN (as long as no other came behind)", () -> {
      MatchLattice x = new MatchLattice();
      x.stir(0, 0, 0);
      x.stir(0, 0, 1);
      x.undo();
      x.undo();
      due("the first first", x.redo(), 1);
      due("list of l0", Told.listOf(x, 0, 0), "102");
      due("the second", x.redo(), 0);
      due("list of l0", Told.listOf(x, 0, 0), "120");
      x.undo();
      x.undo();
      due("another one by a stir", x.stir(1, 1, 1), 2);
      due("nothing to do again", x.redo(), STATE);
      x.undo();
      due("another one by a text", Told.tell(x, "l0:012"), 1);
      due("nothing to do again", x.redo(), STATE);
      x.undo();
      x.stirred(0, 0, 0);
      x.hand(0, 0);
      due("a fault is no change", Told.tell(x, "l0:011"), -105);
      due("done again", x.redo(), 0);
    });
  }

  private static void keptChanges() {
    says("12 at most are kept", () -> {
      for (int made : new int[] {11, 12, 13, 14, 25, 26, 27, 40}) {
        MatchLattice x = Told.of(5);
        List<String> lists = new ArrayList<>();
        lists.add(Told.listOf(x, 0, 0));
        for (int i = 0; i < made; i++) {
          x.stir(0, 0, i % 4);
          lists.add(Told.listOf(x, 0, 0));
        }
        int kept = Math.min(made, 12);
        due("changes kept of " + made, x.count(2), kept);
        for (int i = 1; i <= kept; i++) {
          due("undo()", x.undo(), kept - i);
          due("list", Told.listOf(x, 0, 0), lists.get(made - i));
        }
        due("undo() of those not kept", x.undo(), STATE);
        due("list", Told.listOf(x, 0, 0), lists.get(made - kept));
        for (int i = 1; i <= kept; i++) {
          due("redo()", x.redo(), kept - i);
        }
        due("list", Told.listOf(x, 0, 0), lists.get(made));
        due("redo()", x.redo(), STATE);
      }
    });
    says("when n is told, there are none.", () -> {
      for (int n = 1; n <= 8; n++) {
        MatchLattice x = new MatchLattice();
        x.stir(0, 0, 0);
        x.stir(0, 0, 1);
        x.undo();
        x.size(n);
        due("undo()", x.undo(), STATE);
        due("redo()", x.redo(), STATE);
        due("counts", x.count(2) + x.count(3), 0);
      }
      MatchLattice y = new MatchLattice();
      y.stir(0, 0, 0);
      y.undo();
      y.size(9);
      due("n that is refused", y.redo(), 0);
    });
    says("AN IMAGE keeps n, LISTS, the HAND-MADE MATCH.", () -> {
      MatchLattice x = Told.with(Told.APART);
      Told.handAll(x, "3-1-");
      x.image();
      x.size(8);
      x.hand(7, 7);
      Told.feed(x, "l0");
      x.stir(1, 7, 6);
      due("matches ahead of it", x.match(-1), 1);
      due("back()", x.back(), 4);
      due("lists", Told.listsOf(x), Told.APART);
      due("by hand", Told.handOf(x), "3-1-");
      due("r1 is taken from l2", x.hand(1, 1), NOT);
      due("by hand", Told.handOf(x), "31--");
      due("matches", x.match(-1), 3);
      due("the tape is not kept", x.count(1), 2);
    });
  }

  // ---- answers

  private static void answers() {
    says("Answers, of several the one named first: BAD (-1): no such number, or it is not as said; NOT (-2); FULL (-3);"
        + " STATE (-5); LONG (-7).", () -> {
      due("constants", BAD + " " + NOT + " " + FULL + " " + STATE + " " + LONG, "-1 -2 -3 -5 -7");
      MatchLattice x = Told.of(8);
      due("BAD ahead of LONG: right", x.lie(8, 0), BAD);
      due("BAD ahead of LONG: what", x.lie(0, 2), BAD);
      due("BAD ahead of LONG: left", Told.with(Told.ENDLESS).mended(3), BAD);
      for (int i = 0; i < 120; i++) {
        x.feed('l');
      }
      due("BAD ahead of FULL", x.feed(31), BAD);
      due("FULL", x.feed(32), FULL);
      due("BAD ahead of NOT: k", x.pair(0, -1), BAD);
      due("BAD ahead of NOT: what", x.of(0, 2), BAD);
      due("BAD ahead of NOT: side", x.has(1, 2, 0), BAD);
      due("BAD ahead of NOT: one", x.has(1, 0, 8), BAD);
      due("BAD ahead of NOT: which", x.cost(1, 5), BAD);
      due("BAD ahead of NOT: other", x.either(1, -1, 0), BAD);
      due("BAD ahead of NOT: which of two", x.either(1, 1, 2), BAD);
      due("BAD ahead of NOT: b", x.middle(1, -1, 0), BAD);
      due("BAD ahead of NOT: c", x.middle(1, 1, -1), BAD);
      due("BAD ahead of NOT: i", x.text(1, -2), BAD);
      due("BAD ahead of NOT: side", x.asking(2, 99), BAD);
    });
  }

  private static void refusals() {
    says("What is answered so changes nothing, but THE TAPE, where it is said.", () -> {
      refused("size(0)", x -> x.size(0), BAD);
      refused("size(9)", x -> x.size(9), BAD);
      refused("feed(31)", x -> x.feed(31), BAD);
      refused("feed(127)", x -> x.feed(127), BAD);
      refused("list(0, 0, 3)", x -> x.list(0, 0, 3), BAD);
      refused("stir(0, 0, 2)", x -> x.stir(0, 0, 2), BAD);
      refused("stir(0, 3, 0)", x -> x.stir(0, 3, 0), BAD);
      refused("stir(2, 0, 0)", x -> x.stir(2, 0, 0), BAD);
      refused("stirred(0, 0, 2)", x -> x.stirred(0, 0, 2), BAD);
      refused("best(0, 0, 1)", x -> x.best(0, 0, 1), BAD);
      refused("asking(0, 99)", x -> x.asking(0, 99), NOT);
      refused("rounds(9)", x -> x.rounds(9), NOT);
      refused("pair(0, 3)", x -> x.pair(0, 3), NOT);
      refused("ahead(9)", x -> x.ahead(9), NOT);
      refused("of(9, 0)", x -> x.of(9, 0), NOT);
      refused("exposed(9)", x -> x.exposed(9), NOT);
      refused("match(9)", x -> x.match(9), NOT);
      refused("has(9, 0, 0)", x -> x.has(9, 0, 0), NOT);
      refused("cost(9, 0)", x -> x.cost(9, 0), NOT);
      refused("pick(5)", x -> x.pick(5), BAD);
      refused("either(0, 9, 0)", x -> x.either(0, 9, 0), NOT);
      refused("middle(0, 0, 9)", x -> x.middle(0, 0, 9), NOT);
      refused("may(0, 3)", x -> x.may(0, 3), BAD);
      refused("lie(3, 0)", x -> x.lie(3, 0), BAD);
      refused("text(0, 11)", x -> x.text(0, 11), NOT);
      refused("hand(0, 3)", x -> x.hand(0, 3), BAD);
      refused("hand(0, -2)", x -> x.hand(0, -2), BAD);
      refused("hand(3, 0)", x -> x.hand(3, 0), BAD);
      refused("hand(1, -1), who is alone", x -> x.hand(1, -1), NOT);
      refused("handed(1)", x -> x.handed(1), NOT);
      refused("mended(3)", x -> x.mended(3), BAD);
      refused("known()", x -> x.known(), NOT);
      refused("count(5)", x -> x.count(5), BAD);
      refused("back()", x -> x.back(), STATE);
    });
    says("What is answered so changes nothing", () -> {
      MatchLattice x = Told.with(Told.ENDLESS);
      String before = Told.wholeStateOf(x);
      due("mended(-1)", x.mended(-1), LONG);
      due("LONG by mended()", Told.wholeStateOf(x), before);
      MatchLattice y = Told.of(6);
      before = Told.wholeStateOf(y);
      due("lie(0, 0)", y.lie(0, 0), LONG);
      due("LONG by lie()", Told.wholeStateOf(y), before);
      MatchLattice z = new MatchLattice();
      z.stir(0, 0, 0);
      before = Told.wholeStateOf(z);
      due("redo()", z.redo(), STATE);
      due("STATE by redo()", Told.wholeStateOf(z), before);
      z.undo();
      before = Told.wholeStateOf(z);
      due("undo()", z.undo(), STATE);
      due("STATE by undo()", Told.wholeStateOf(z), before);
      MatchLattice w = new MatchLattice();
      Told.feed(w, "l0:210");
      for (int bytes = 7; bytes <= 120; bytes++) {
        due("feed(' ')", w.feed(' '), bytes);
      }
      due("feed('l')", w.feed('l'), FULL);
      due("FULL: the tape is as it was", w.count(1), 120);
      due("FULL: its bytes are as they were", w.lists(), -106);
    });
    says("All memory is the class's own.", () -> {
      MatchLattice x = new MatchLattice();
      MatchLattice y = Told.with(Told.WHEEL);
      y.hand(0, 1);
      y.image();
      y.feed('l');
      due("another object", Told.stateOf(x), "l0:012;l1:012;l2:012;r0:012;r1:012;r2:012 | --- | 3 0 0 0 3 | 1");
      due("the image of another one", x.back(), STATE);
    });
  }

  private interface Refused {
    int by(MatchLattice x);
  }

  /** An object with some of all: two changes, one undone, a left who has somebody, and bytes on the tape. */
  private static void refused(String call, Refused made, int want) {
    MatchLattice x = Told.with(Told.WHEEL);
    x.stir(0, 0, 0);
    x.undo();
    x.hand(0, 2);
    Told.feed(x, "l0:21");
    String before = Told.wholeStateOf(x);
    due(call, made.by(x), want);
    due("the state behind " + call, Told.wholeStateOf(x), before);
    x.feed('0');
    due("the tape behind " + call, x.lists(), 1);
    due("list of l0 by the tape behind " + call, Told.listOf(x, 0, 0), "210");
  }

  // ---- so that nothing is read two ways

  private static void size() {
    says("size() with n as it is also makes LISTS as at first, all alone by hand, and leaves no CHANGES", () -> {
      MatchLattice x = Told.with(Told.WHEEL);
      Told.handAll(x, "120");
      x.stir(0, 0, 0);
      x.undo();
      due("matches ahead of it", x.match(-1), 3);
      due("size(3)", x.size(3), 3);
      due("all", Told.stateOf(x), "l0:012;l1:012;l2:012;r0:012;r1:012;r2:012 | --- | 3 0 0 0 3 | 1");
      due("undo()", x.undo(), STATE);
      due("redo()", x.redo(), STATE);
    });
    says("THE TAPE and THE IMAGE stay.", () -> {
      for (int n = 1; n <= 8; n++) {
        MatchLattice x = Told.with(Told.WHEEL);
        x.hand(2, 2);
        x.image();
        Told.feed(x, "l0:0");
        x.size(n);
        due("bytes", x.count(1), 4);
        Told.feed(x, "1234567".substring(0, n - 1));
        due("lists()", x.lists(), 1);
        due("back()", x.back(), 3);
        due("lists", Told.listsOf(x), Told.WHEEL);
        due("by hand", Told.handOf(x), "--2");
      }
    });
  }

  private static void textsReadOneWay() {
    says("A TEXT is looked at from the left", () -> {
      due("a figure that is none behind a missing colon", Told.tell(new MatchLattice(), "l0012;l9:012"), -102);
      due("a figure twice ahead of a wrong sign", Told.tell(new MatchLattice(), "l0:00x"), -104);
      due("a wrong sign ahead of a figure twice", Told.tell(new MatchLattice(), "l0:0x0"), -104);
      due("two lines with a fault", Told.tell(new MatchLattice(), "l0:013;x"), -105);
    });
    says("a LINE whose figures are too few has its FAULT where the next one should stand", () -> {
      for (int n = 1; n <= 8; n++) {
        for (int few = 0; few < n; few++) {
          String text = "l0:" + "01234567".substring(0, few) + ";r0:" + "01234567".substring(0, n);
          due(few + " of " + n, Told.tell(Told.of(n), text), -103 - few);
        }
      }
    });
    says("the number behind l or r is one figure", () -> {
      due("l00", Told.tell(new MatchLattice(), "l00:012"), -102);
      due("r01", Told.tell(new MatchLattice(), "r01:012"), -102);
      due("l10", Told.tell(Told.of(8), "l10:01234567"), -102);
      due("no figure", Told.tell(new MatchLattice(), "l:012"), -101);
    });
    says("several LINES of one are all counted, the last one counts as the LIST", () -> {
      MatchLattice x = new MatchLattice();
      due("like ones", Told.tell(x, "l0:210;l0:210"), 2);
      due("five of one, one of another", Told.tell(x, "l0:012;l0:210;l1:102;l0:021;l0:201;l0:120"), 6);
      due("list of l0", Told.listOf(x, 0, 0), "120");
      due("two changes", x.count(2), 2);
      due("a fault in the last of one", Told.tell(x, "l0:012;l0:022"), -112);
      due("list of l0", Told.listOf(x, 0, 0), "120");
    });
    says("one TEXT is one CHANGE, also if no LIST is otherwise by it", () -> {
      MatchLattice x = new MatchLattice();
      due("a text of what is", Told.tell(x, "l0:012;r2:012"), 2);
      due("one change", x.count(2), 1);
      due("undo()", x.undo(), 0);
      due("one to do again", x.count(3), 1);
      due("a text of what is", Told.tell(x, "l0:012"), 1);
      due("it came behind", x.redo(), STATE);
    });
    says("so is stir().", () -> {
      MatchLattice x = new MatchLattice();
      x.stir(0, 0, 0);
      x.stir(0, 0, 0);
      due("two changes that leave all as at first", x.count(2), 2);
      due("undo()", x.undo(), 1);
      due("list of l0", Told.listOf(x, 0, 0), "102");
    });
  }

  private static void handsReadOneWay() {
    says("undo(), redo() leave the HAND-MADE MATCH.", () -> {
      MatchLattice x = Told.with(Told.WHEEL);
      Told.handAll(x, "120");
      due("known", x.known(), 1);
      x.undo();
      due("by hand behind undo()", Told.handOf(x), "120");
      x.undo();
      due("not stable by lists as at first", x.known(), NOT);
      x.hand(0, -1);
      x.redo();
      x.redo();
      due("by hand behind redo()", Told.handOf(x), "-20");
      due("alone", x.count(4), 1);
    });
    says("hand() that takes a RIGHT from another LEFT leaves that one alone", () -> {
      MatchLattice x = Told.of(8);
      x.hand(7, 0);
      due("from the last one", x.hand(0, 0), NOT);
      due("that one", x.handed(7), NOT);
      due("alone", x.count(4), 7);
      due("back", x.hand(7, 0), NOT);
      due("that one", x.handed(0), NOT);
    });
    says("to have whom one has already is well.", () -> {
      MatchLattice x = new MatchLattice();
      x.hand(1, 2);
      due("hand(1, 2)", x.hand(1, 2), 2);
      due("by hand", Told.handOf(x), "-2-");
      due("alone", x.count(4), 2);
    });
    says("best(side, one, -1): one is a RIGHT.", () -> {
      MatchLattice x = Told.with("l0:120;l1:201;l2:012;r0:012;r1:012;r2:012");
      due("whom the lefts have", Told.bestOf(x, 0), "120");
      due("whom r0, r1, r2 have", x.best(0, 0, -1) + " " + x.best(0, 1, -1) + " " + x.best(0, 2, -1), "2 0 1");
      due("r3", x.best(0, 3, -1), BAD);
    });
    says("ASKING is told from the start each time, for LISTS as they are.", () -> {
      MatchLattice x = new MatchLattice();
      due("the last time", x.asking(0, 5), 221);
      due("the first time", x.asking(0, 0), 1);
      due("the other side between", x.asking(1, 1), 100);
      x.best(1, 0, 0);
      x.lie(0, 0);
      due("the same again", Told.askingOf(x, 0), "1 100 111 200 210 221");
      x.stir(1, 0, 0);
      due("behind a change", Told.askingOf(x, 0), "1 101 11 200 210 221");
      x.undo();
      due("undone", Told.askingOf(x, 0), "1 100 111 200 210 221");
      String[] all = {Told.WHEEL, Told.GAINING, Told.LOSING, Told.UNEVEN, Told.TAIL, Told.TWO_PAIRS, Told.APART,
          Told.LOSING_FIRST, Told.GAINING_FIRST, Told.GAINING_LAST, Told.NOTHING_GAINED, Told.FORK, Told.THREE_PAIRS,
          Told.APART_OF_SIX, Told.doubled(4), Told.turned(6), "l0:0;r0:0", "l0:01;l1:01;r0:01;r1:01"};
      for (String before : all) {
        for (String lists : all) {
          MatchLattice y = Told.with(before);
          y.match(-1);
          Told.tellNew(y, lists);
          due("all that comes of " + lists + " behind " + before, ofLists(y), ofLists(Told.with(lists)));
        }
      }
    });
  }

  private static void numbersReadOneWay() {
    says("pick(), either(), middle(), known(): the number of a MATCH as by match().", () -> {
      MatchLattice x = Told.with(Told.doubled(4));
      due("pick(1)", x.match(x.pick(1)), 63);
      due("either(1, 2, 1)", x.match(x.either(1, 2, 1)), 3);
      due("the worse one of 4 and 5", x.either(4, 5, 1), 6);
      due("middle(1, 6, 2)", x.match(x.middle(1, 6, 2)), 3);
      Told.handAll(x, "3210");
      due("known()", x.known(), 9);
      due("its bits", x.match(x.known()), 63);
      due("whom l3 has in it", x.has(x.known(), 0, 3), 0);
    });
    says("lie(): the true LIST is one of all.", () -> {
      due("one list alone", Told.of(1).lie(0, 1), 1);
      due("it brings the best place", Told.of(1).lie(0, 0), 0);
      due("all six, the true one with them", new MatchLattice().lie(2, 1), 6);
      due("24", Told.of(4).lie(3, 1), 24);
      MatchLattice x = Told.with("l0:01;l1:10;r0:01;r1:01");
      due("the true list and the other one", x.lie(0, 1), 2);
      due("r0 has its best by the true list", x.lie(0, 0), 0);
    });
    says("mended(-1): 0, if nobody blocks; 201 would be LONG.", () -> {
      MatchLattice x = new MatchLattice();
      Told.handAll(x, "012");
      due("nobody blocks", x.mended(-1), 0);
      due("whom l1 has", x.mended(1), 1);
      due("200", Told.with(Told.MENDED_200).mended(-1), 200);
      due("201", Told.with(Told.MENDED_201).mended(-1), LONG);
      MatchLattice y = Told.with(Told.MENDED_201);
      int first = y.blocks();
      y.hand(first / 10, first % 10);
      due("one of the 201 by hand", y.mended(-1), 200);
    });
    says("fixed(): with one MATCH alone all LEFTS.", () -> {
      for (int n = 1; n <= 8; n++) {
        due("fixed() of " + n, Told.of(n).fixed(), (1 << n) - 1);
      }
    });
    says("match(m), exposed(), has(), cost(), text() with m at or above how many there are: NOT.", () -> {
      for (String lists : new String[] {"l0:0;r0:0", Told.WHEEL, Told.doubled(8)}) {
        MatchLattice x = Told.with(lists);
        int many = x.match(-1);
        Sentences.thereAre("match(m)", many, m -> x.match(m));
        Sentences.thereAre("exposed(m)", many, m -> x.exposed(m));
        Sentences.thereAre("has(m, 0, 0)", many, m -> x.has(m, 0, 0));
        Sentences.thereAre("has(m, 1, 0)", many, m -> x.has(m, 1, 0));
        Sentences.thereAre("cost(m, 4)", many, m -> x.cost(m, 4));
        Sentences.thereAre("text(m, -1)", many, m -> x.text(m, -1));
        Sentences.thereAre("text(m, 0)", many, m -> x.text(m, 0));
      }
    });
  }

  private static void theTape() {
    says("THE TAPE is empty behind each call that reads it, by a FAULT and by all that is refused behind its text, too;"
        + " it stays just where that is said.", () -> {
      MatchLattice x = new MatchLattice();
      due("a text", Told.tell(x, "l0:210"), 1);
      due("bytes", x.count(1), 0);
      due("a fault", Told.tell(x, "l0:21x;r0:012"), -105);
      due("bytes", x.count(1), 0);
      due("an early end", Told.tell(x, "l0:2"), -104);
      due("bytes", x.count(1), 0);
      due("nothing", x.lists(), -100);
      due("the first byte again", x.feed('l'), 1);
      due("lists() of it", x.lists(), -101);
      for (int i = 0; i < 120; i++) {
        x.feed('l');
      }
      due("a full one", x.lists(), -101);
      due("bytes", x.count(1), 0);
      Told.feed(x, "l1:1");
      x.stir(0, 0, 0);
      x.undo();
      x.redo();
      x.hand(0, 0);
      x.image();
      x.back();
      x.size(2);
      x.feed(31);
      due("all others leave it", x.count(1), 4);
      x.feed('0');
      due("lists()", x.lists(), 1);
    });
  }
}
