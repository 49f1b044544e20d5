/** Each promise of the document by itself: ordinary inputs, the edges that it names, wrong inputs. */
public final class Promises {
  private static final int BAD = MatchLattice.BAD;
  private static final int NOT = MatchLattice.NOT;
  private static final int FULL = MatchLattice.FULL;
  private static final int STATE = MatchLattice.STATE;
  private static final int LONG = MatchLattice.LONG;

  /** Two turns of three, one ahead of the other, and three matches. */
  private static final String WHEEL = "l0:012;l1:120;l2:201;r0:120;r1:201;r2:012";
  /** One turn of two, which gains 1; left 2 and right 2 have each other for good. */
  private static final String GAINING = "l0:021;l1:102;l2:201;r0:120;r1:021;r2:201";
  /** As GAINING, but the turn loses 1. */
  private static final String LOSING = "l0:021;l1:102;l2:201;r0:102;r1:012;r2:201";
  /** Two turns of two, none ahead of the other, and four matches. */
  private static final String TWO_PAIRS = "l0:0123;l1:1023;l2:2301;l3:3201;r0:1023;r1:0123;r2:3201;r3:2301";
  /** Right 0 has left 0; by the lie 1, 2, 0 it has left 1. */
  private static final String LIAR = "l0:012;l1:102;l2:012;r0:102;r1:012;r2:012";
  /** Mending goes round and round. */
  private static final String ENDLESS = "l0:021;l1:201;l2:102;r0:210;r1:021;r2:012";
  /** Mended 200 times and 201 times, when all are alone at first. */
  private static final String MENDED_200_LEFTS = "l0:10543672;l1:10764325;l2:35026471;l3:65342170;"
      + "l4:36752401;l5:72435106;l6:75342610;l7:61034257";
  private static final String MENDED_200_RIGHTS = "r0:17456230;r1:72346501;r2:41620573;r3:63175420;"
      + "r4:15674203;r5:53647201;r6:71305264;r7:70142635";
  private static final String MENDED_201_LEFTS = "l0:01234765;l1:57621043;l2:16432075;l3:45362071;"
      + "l4:76123504;l5:26145073;l6:74321506;l7:35462170";
  private static final String MENDED_201_RIGHTS = "r0:61450237;r1:73105426;r2:67254130;r3:65173402;"
      + "r4:46531072;r5:73564012;r6:47530126;r7:25614037";

  private static int wrong = 0;

  public static void main(String[] args) {
    aNewObject();
    size();
    feed();
    listsThatAreTexts();
    listsWithAFault();
    theTapeBehindLists();
    list();
    stir();
    stirred();
    undoAndRedo();
    changesThatAreKept();
    best();
    asking();
    rounds();
    pair();
    ahead();
    of();
    exposed();
    match();
    has();
    cost();
    pick();
    most();
    either();
    middle();
    may();
    fixed();
    lie();
    text();
    hand();
    handed();
    blocks();
    blocking();
    mended();
    known();
    imageAndBack();
    count();
    refusalsChangeNothing();
    System.out.println(wrong == 0 ? "all promises are kept" : wrong + " answers are not as due");
    if (wrong != 0) {
      System.exit(1);
    }
  }

  private static void due(String call, int got, int want) {
    if (got != want) {
      wrong++;
      System.out.println(call + " answered " + got + ", due is " + want);
    }
  }

  private static MatchLattice with(int n, String text) {
    MatchLattice x = new MatchLattice();
    x.size(n);
    due("lists of " + text, tell(x, text), text.split(";").length);
    return x;
  }

  private static int tell(MatchLattice x, String text) {
    for (int i = 0; i < text.length(); i++) {
      x.feed(text.charAt(i));
    }
    return x.lists();
  }

  private static int faultOf(int n, String text) {
    MatchLattice x = new MatchLattice();
    x.size(n);
    return -100 - tell(x, text);
  }

  private static int listOf(MatchLattice x, int side, int one) {
    int figures = 0;
    for (int place = 0; place < x.count(0); place++) {
      figures = 10 * figures + x.list(side, one, place);
    }
    return figures;
  }

  private static void aNewObject() {
    MatchLattice x = new MatchLattice();
    due("count(0)", x.count(0), 3);
    for (int one = 0; one < 3; one++) {
      due("list of a left", listOf(x, 0, one), 12);
      due("list of a right", listOf(x, 1, one), 12);
      due("handed", x.handed(one), NOT);
    }
    due("count(1)", x.count(1), 0);
    due("count(2)", x.count(2), 0);
    due("count(3)", x.count(3), 0);
    due("back without an image", x.back(), STATE);
  }

  private static void size() {
    MatchLattice x = with(3, WHEEL);
    x.hand(0, 0);
    due("feed", x.feed('l'), 1);
    due("size(0)", x.size(0), BAD);
    due("size(9)", x.size(9), BAD);
    due("size(-1)", x.size(Integer.MIN_VALUE), BAD);
    due("a refused size keeps lists", listOf(x, 0, 1), 120);
    due("size(3) again", x.size(3), 3);
    due("lists are as at first", listOf(x, 0, 1), 12);
    due("all are alone", x.count(4), 3);
    due("no changes", x.count(2), 0);
    due("the tape stays", x.count(1), 1);
    due("size(8)", x.size(8), 3);
    due("size(1)", x.size(1), 8);
    due("size(2)", x.size(2), 1);
    due("list(1, 1, 1)", x.list(1, 1, 1), 1);
    due("list(1, 2, 1)", x.list(1, 2, 1), BAD);
  }

  private static void feed() {
    MatchLattice x = new MatchLattice();
    due("feed(31)", x.feed(31), BAD);
    due("feed(127)", x.feed(127), BAD);
    due("feed(-1)", x.feed(-1), BAD);
    due("feed(32)", x.feed(32), 1);
    due("feed(126)", x.feed(126), 2);
    for (int i = 3; i <= 120; i++) {
      due("feed", x.feed('l'), i);
    }
    due("feed to a full tape", x.feed('l'), FULL);
    due("a wrong byte to a full tape", x.feed(31), BAD);
    due("count(1)", x.count(1), 120);
    due("a blank is no line", x.lists(), -100);
    due("feed to an empty tape", x.feed('l'), 1);
  }

  private static void listsThatAreTexts() {
    MatchLattice x = new MatchLattice();
    due("one line", tell(x, "r1:201"), 1);
    due("list of r1", listOf(x, 1, 1), 201);
    due("list of l1", listOf(x, 0, 1), 12);
    due("of several lines the last counts", tell(x, "l2:210;l0:102;l2:120"), 3);
    due("list of l2", listOf(x, 0, 2), 120);
    due("list of l0", listOf(x, 0, 0), 102);
    due("each text is one change", x.count(2), 2);
    due("lists as they are", tell(x, "l0:102"), 1);
    due("they are a change, too", x.count(2), 3);
    x.size(1);
    due("lists of one", tell(x, "l0:0;r0:0;l0:0"), 3);
    x.size(8);
    due("lists of eight", tell(x, "l7:76543210;r0:10234567"), 2);
    due("list of l7", listOf(x, 0, 7), 76543210);
    x.size(3);
    StringBuilder many = new StringBuilder("l0:012");
    for (int i = 0; i < 16; i++) {
      many.append(";l0:120");
    }
    due("a text of 118 bytes", tell(x, many.toString()), 17);
    due("list of l0", listOf(x, 0, 0), 120);
  }

  private static void listsWithAFault() {
    due("nothing", faultOf(3, ""), 0);
    due("no side", faultOf(3, "x0:012"), 0);
    due("a great letter", faultOf(3, "L0:012"), 0);
    due("a blank ahead", faultOf(3, " l0:012"), 0);
    due("a side alone", faultOf(3, "l"), 1);
    due("no number of the side", faultOf(3, "r3:012"), 1);
    due("no figure", faultOf(3, "r:012"), 1);
    due("two figures", faultOf(3, "r00:012"), 2);
    due("no colon", faultOf(3, "l0"), 2);
    due("nothing told", faultOf(3, "l0:"), 3);
    due("a number that is none", faultOf(3, "l0:013"), 5);
    due("a number twice", faultOf(3, "l0:010"), 5);
    due("too few", faultOf(3, "l0:01"), 5);
    due("too few, and another line", faultOf(3, "l0:01;r0:012"), 5);
    due("too many", faultOf(3, "l0:0120"), 6);
    due("something between", faultOf(3, "l0:0,12"), 4);
    due("a blank behind", faultOf(3, "l0:012 "), 6);
    due("no line behind", faultOf(3, "l0:012;"), 7);
    due("two signs between", faultOf(3, "l0:012;;l1:012"), 7);
    due("a fault in the next line", faultOf(3, "l0:012;r1:0122"), 13);
    due("figures of eight", faultOf(8, "l0:01234568"), 10);
    due("figures of two", faultOf(2, "l1:02"), 4);
    due("figures of one", faultOf(1, "l0:0;r1:0"), 6);
  }

  private static void theTapeBehindLists() {
    MatchLattice x = new MatchLattice();
    due("a fault in the second line", tell(x, "l0:210;l1:013"), -112);
    due("no list changes", listOf(x, 0, 0), 12);
    due("no change", x.count(2), 0);
    due("the tape is empty", x.count(1), 0);
    due("a text", tell(x, "l0:210"), 1);
    due("the tape is empty", x.count(1), 0);
    due("nothing is a fault", x.lists(), -100);
    x.undo();
    due("a fault", tell(x, "l0"), -102);
    due("a fault leaves what may be done again", x.count(3), 1);
  }

  private static void list() {
    MatchLattice x = with(3, "l0:201;r2:120");
    due("list(0, 0, 0)", x.list(0, 0, 0), 2);
    due("list(0, 0, 2)", x.list(0, 0, 2), 1);
    due("list(1, 2, 0)", x.list(1, 2, 0), 1);
    due("list(2, 0, 0)", x.list(2, 0, 0), BAD);
    due("list(-1, 0, 0)", x.list(-1, 0, 0), BAD);
    due("list(0, 3, 0)", x.list(0, 3, 0), BAD);
    due("list(0, -1, 0)", x.list(0, -1, 0), BAD);
    due("list(0, 0, 3)", x.list(0, 0, 3), BAD);
    due("list(0, 0, -1)", x.list(0, 0, -1), BAD);
  }

  private static void stir() {
    MatchLattice x = new MatchLattice();
    due("stir(0, 1, 0)", x.stir(0, 1, 0), 1);
    due("stir(0, 1, 1)", x.stir(0, 1, 1), 2);
    due("list of l1", listOf(x, 0, 1), 120);
    due("stir(1, 2, 1)", x.stir(1, 2, 1), 2);
    due("list of r2", listOf(x, 1, 2), 21);
    due("no next place", x.stir(0, 0, 2), BAD);
    due("stir(0, 0, -1)", x.stir(0, 0, -1), BAD);
    due("stir(0, 3, 0)", x.stir(0, 3, 0), BAD);
    due("stir(2, 0, 0)", x.stir(2, 0, 0), BAD);
    due("three changes", x.count(2), 3);
    x.size(1);
    due("nothing to stir", x.stir(0, 0, 0), BAD);
  }

  private static void stirred() {
    MatchLattice x = with(3, WHEEL);
    due("matches", x.match(-1), 3);
    due("l0 would rather have 1", x.stirred(0, 0, 0), 2);
    due("nothing has changed", x.match(-1), 3);
    due("list of l0", listOf(x, 0, 0), 12);
    due("no change", x.count(2), 1);
    due("stirred(0, 0, 2)", x.stirred(0, 0, 2), BAD);
    due("stirred(0, 3, 0)", x.stirred(0, 3, 0), BAD);
    due("stirred(-1, 0, 0)", x.stirred(-1, 0, 0), BAD);
    due("stirred(1, 0, -1)", x.stirred(1, 0, -1), BAD);
    due("stir(0, 0, 0)", x.stir(0, 0, 0), 1);
    due("so many then", x.match(-1), 2);
    due("stirred back", x.stirred(0, 0, 0), 3);
  }

  private static void undoAndRedo() {
    MatchLattice x = new MatchLattice();
    due("undo() at first", x.undo(), STATE);
    due("redo() at first", x.redo(), STATE);
    tell(x, "l0:210;r0:210");
    x.stir(0, 0, 0);
    x.hand(1, 1);
    due("undo()", x.undo(), 1);
    due("list of l0", listOf(x, 0, 0), 210);
    due("undo()", x.undo(), 0);
    due("list of r0", listOf(x, 1, 0), 12);
    due("undo() once more", x.undo(), STATE);
    due("redo()", x.redo(), 1);
    due("list of r0", listOf(x, 1, 0), 210);
    due("redo()", x.redo(), 0);
    due("list of l0", listOf(x, 0, 0), 120);
    due("redo() once more", x.redo(), STATE);
    due("the match by hand stays", x.handed(1), 1);
    x.undo();
    due("a change", x.stir(1, 1, 0), 1);
    due("nothing to do again behind it", x.redo(), STATE);
    due("undo()", x.undo(), 1);
  }

  private static void changesThatAreKept() {
    MatchLattice x = new MatchLattice();
    x.size(8);
    for (int i = 1; i <= 15; i++) {
      x.stir(i % 2, i / 2, 0);
      due("changes kept", x.count(2), Math.min(i, 12));
    }
    for (int i = 11; i >= 0; i--) {
      due("stirred by now", howManyStirred(x), i + 4);
      due("undo()", x.undo(), i);
      due("may be done again", x.count(3), 12 - i);
    }
    due("the oldest three are lost", x.undo(), STATE);
    due("they are still made", howManyStirred(x), 3);
    for (int i = 11; i >= 0; i--) {
      due("redo()", x.redo(), i);
      due("stirred again by now", howManyStirred(x), 15 - i);
    }
    x.undo();
    x.size(3);
    due("no changes when n is told", x.count(2) + x.count(3), 0);
  }

  private static int howManyStirred(MatchLattice x) {
    int stirred = 0;
    while (stirred < 15 && x.list((stirred + 1) % 2, (stirred + 1) / 2, 0) == 1) {
      stirred++;
    }
    for (int i = stirred + 1; i <= 15; i++) {
      due("not stirred", x.list(i % 2, i / 2, 0), 0);
    }
    return stirred;
  }

  private static void best() {
    MatchLattice x = with(3, WHEEL);
    due("lefts' best of l1", x.best(0, 1, 0), 1);
    due("rights' best of l1", x.best(1, 1, 0), 0);
    due("lefts' best of r2", x.best(0, 2, -1), 2);
    due("rights' best of r2", x.best(1, 2, -1), 0);
    due("best(2, 0, 0)", x.best(2, 0, 0), BAD);
    due("best(-1, 0, 0)", x.best(-1, 0, 0), BAD);
    due("best(0, 3, 0)", x.best(0, 3, 0), BAD);
    due("best(0, -1, 0)", x.best(0, -1, 0), BAD);
    due("best(0, 0, 1)", x.best(0, 0, 1), BAD);
    due("best(0, 0, -2)", x.best(0, 0, -2), BAD);
  }

  private static void asking() {
    MatchLattice x = with(3, LIAR);
    int[] lefts = {1, 111, 200, 210, 221};
    due("how often", x.asking(0, -1), lefts.length);
    for (int i = 0; i < lefts.length; i++) {
      due("asking(0, " + i + ")", x.asking(0, i), lefts[i]);
    }
    due("asking(0, 5)", x.asking(0, 5), NOT);
    due("asking(0, MAX)", x.asking(0, Integer.MAX_VALUE), NOT);
    due("rights ask l1, l0, l0", x.asking(1, 0), 11);
    due("rights ask", x.asking(1, 1), 101);
    due("r2 asks l0", x.asking(1, 2), 200);
    due("r2 asks l1", x.asking(1, 3), 210);
    due("r2 asks l2", x.asking(1, 4), 221);
    due("asking(2, 0)", x.asking(2, 0), BAD);
    due("asking(-1, 0)", x.asking(-1, 0), BAD);
    due("asking(0, -2)", x.asking(0, -2), BAD);
    x.size(2);
    tell(x, "r0:10");
    due("l1 comes and l0 is alone then", x.asking(0, 1), 101);
    due("the least who is alone asks", x.asking(0, 2), 11);
    due("how often", x.asking(0, -1), 3);
  }

  private static void rounds() {
    MatchLattice x = with(3, WHEEL);
    due("rounds(-1)", x.rounds(-1), 2);
    due("rounds(0)", x.rounds(0), 3);
    due("rounds(1)", x.rounds(1), 3);
    due("rounds(2)", x.rounds(2), NOT);
    due("rounds(-2)", x.rounds(-2), BAD);
    x.size(3);
    due("no turns", x.rounds(-1), 0);
    due("no turn 0", x.rounds(0), NOT);
  }

  private static void pair() {
    MatchLattice x = with(3, WHEEL);
    int[][] pairs = {{0, 11, 22}, {1, 12, 20}};
    for (int t = 0; t < 2; t++) {
      for (int k = 0; k < 3; k++) {
        due("pair(" + t + ", " + k + ")", x.pair(t, k), pairs[t][k]);
      }
    }
    due("pair(0, 3)", x.pair(0, 3), NOT);
    due("pair(2, 0)", x.pair(2, 0), NOT);
    due("pair(0, -1)", x.pair(0, -1), BAD);
    due("pair(-1, 0)", x.pair(-1, 0), BAD);
    due("pair(9, -1)", x.pair(9, -1), BAD);
  }

  private static void ahead() {
    MatchLattice x = with(3, WHEEL);
    due("ahead(0)", x.ahead(0), 0);
    due("ahead(1)", x.ahead(1), 1);
    due("ahead(2)", x.ahead(2), NOT);
    due("ahead(-1)", x.ahead(-1), BAD);
    MatchLattice y = with(4, TWO_PAIRS);
    due("none is ahead of the other", y.ahead(1), 0);
  }

  private static void of() {
    MatchLattice x = with(3, WHEEL);
    due("depth of 0", x.of(0, 0), 0);
    due("depth of 1", x.of(1, 0), 1);
    due("gain of 0", x.of(0, 1), 1000);
    due("of(2, 0)", x.of(2, 0), NOT);
    due("of(-1, 0)", x.of(-1, 0), BAD);
    due("of(0, 2)", x.of(0, 2), BAD);
    due("of(0, -1)", x.of(0, -1), BAD);
    due("of(2, 2)", x.of(2, 2), BAD);
    due("a gain", with(3, GAINING).of(0, 1), 1001);
    due("a loss", with(3, LOSING).of(0, 1), 999);
  }

  private static void exposed() {
    MatchLattice x = with(3, WHEEL);
    due("exposed(0)", x.exposed(0), 1);
    due("exposed(1)", x.exposed(1), 2);
    due("exposed(2)", x.exposed(2), 0);
    due("exposed(3)", x.exposed(3), NOT);
    due("exposed(-1)", x.exposed(-1), BAD);
    MatchLattice y = with(4, TWO_PAIRS);
    due("both", y.exposed(0), 3);
    due("the other", y.exposed(1), 2);
    due("the one", y.exposed(2), 1);
  }

  private static void match() {
    MatchLattice x = with(3, WHEEL);
    due("match(-1)", x.match(-1), 3);
    due("match(0)", x.match(0), 0);
    due("match(1)", x.match(1), 1);
    due("match(2)", x.match(2), 3);
    due("match(3)", x.match(3), NOT);
    due("match(-2)", x.match(-2), BAD);
    MatchLattice y = with(4, TWO_PAIRS);
    for (int m = 0; m < 4; m++) {
      due("match(" + m + ")", y.match(m), m);
    }
    due("match(-1)", y.match(-1), 4);
  }

  private static void has() {
    MatchLattice x = with(3, WHEEL);
    due("has(1, 0, 2)", x.has(1, 0, 2), 0);
    due("has(1, 1, 2)", x.has(1, 1, 2), 1);
    due("has(2, 0, 0)", x.has(2, 0, 0), 2);
    due("has(3, 0, 0)", x.has(3, 0, 0), NOT);
    due("has(-1, 0, 0)", x.has(-1, 0, 0), BAD);
    due("has(0, 2, 0)", x.has(0, 2, 0), BAD);
    due("has(0, 0, 3)", x.has(0, 0, 3), BAD);
    due("has(0, 0, -1)", x.has(0, 0, -1), BAD);
    due("has(9, 0, 3)", x.has(9, 0, 3), BAD);
  }

  private static void cost() {
    MatchLattice x = with(3, WHEEL);
    int[][] costs = {{0, 6, 6, 6, 2}, {3, 3, 6, 0, 1}, {6, 0, 6, 6, 2}};
    for (int m = 0; m < 3; m++) {
      for (int which = 0; which < 5; which++) {
        due("cost(" + m + ", " + which + ")", x.cost(m, which), costs[m][which]);
      }
    }
    due("cost(3, 0)", x.cost(3, 0), NOT);
    due("cost(-1, 0)", x.cost(-1, 0), BAD);
    due("cost(0, 5)", x.cost(0, 5), BAD);
    due("cost(0, -1)", x.cost(0, -1), BAD);
    due("cost(3, 5)", x.cost(3, 5), BAD);
  }

  private static void pick() {
    MatchLattice x = with(3, WHEEL);
    int[] picked = {0, 2, 0, 1, 1};
    for (int which = 0; which < 5; which++) {
      due("pick(" + which + ")", x.pick(which), picked[which]);
    }
    due("pick(5)", x.pick(5), BAD);
    due("pick(-1)", x.pick(-1), BAD);
  }

  private static void most() {
    due("most() of no turn", new MatchLattice().most(), 0);
    due("most() of a gain", with(3, GAINING).most(), 1);
    due("most() of a loss", with(3, LOSING).most(), 0);
    due("most() of nothing gained", with(3, WHEEL).most(), 0);
  }

  private static void either() {
    MatchLattice x = with(4, TWO_PAIRS);
    due("better of two", x.either(1, 2, 0), 0);
    due("worse of two", x.either(1, 2, 1), 3);
    due("better of one above the other", x.either(3, 1, 0), 1);
    due("worse of one above the other", x.either(3, 1, 1), 3);
    due("of one twice", x.either(2, 2, 1), 2);
    due("either(4, 0, 0)", x.either(4, 0, 0), NOT);
    due("either(0, 4, 1)", x.either(0, 4, 1), NOT);
    due("either(-1, 0, 0)", x.either(-1, 0, 0), BAD);
    due("either(0, -1, 0)", x.either(0, -1, 0), BAD);
    due("either(0, 0, 2)", x.either(0, 0, 2), BAD);
    due("either(4, 0, -1)", x.either(4, 0, -1), BAD);
  }

  private static void middle() {
    MatchLattice x = with(4, TWO_PAIRS);
    due("middle(0, 1, 2)", x.middle(0, 1, 2), 0);
    due("middle(3, 1, 2)", x.middle(3, 1, 2), 3);
    due("middle(0, 3, 1)", x.middle(0, 3, 1), 1);
    due("middle(2, 2, 1)", x.middle(2, 2, 1), 2);
    due("middle(4, 0, 0)", x.middle(4, 0, 0), NOT);
    due("middle(0, 4, 0)", x.middle(0, 4, 0), NOT);
    due("middle(0, 0, 4)", x.middle(0, 0, 4), NOT);
    due("middle(-1, 0, 0)", x.middle(-1, 0, 0), BAD);
    due("middle(0, -1, 4)", x.middle(0, -1, 4), BAD);
    due("middle(4, 0, -1)", x.middle(4, 0, -1), BAD);
  }

  private static void may() {
    MatchLattice x = with(4, TWO_PAIRS);
    due("may(0, 0)", x.may(0, 0), 3);
    due("may(0, 3)", x.may(0, 3), 12);
    due("may(1, 2)", x.may(1, 2), 12);
    due("may(0, 4)", x.may(0, 4), BAD);
    due("may(0, -1)", x.may(0, -1), BAD);
    due("may(2, 0)", x.may(2, 0), BAD);
    MatchLattice y = with(3, GAINING);
    due("may(0, 2)", y.may(0, 2), 4);
    due("may(1, 1)", y.may(1, 1), 3);
    due("all three", with(3, WHEEL).may(1, 0), 7);
  }

  private static void fixed() {
    due("one match alone", new MatchLattice().fixed(), 7);
    due("l2 has r2 in both", with(3, GAINING).fixed(), 4);
    due("nobody", with(3, WHEEL).fixed(), 0);
  }

  private static void lie() {
    MatchLattice x = with(3, LIAR);
    due("without a lie", x.best(0, 0, -1), 0);
    due("lie(0, 0)", x.lie(0, 0), 0);
    due("lie(0, 1)", x.lie(0, 1), 1);
    due("nothing has changed", listOf(x, 1, 0), 102);
    due("lie(2, 0)", x.lie(2, 0), 2);
    due("each list of r2 brings the same", x.lie(2, 1), 6);
    due("lie(3, 0)", x.lie(3, 0), BAD);
    due("lie(-1, 0)", x.lie(-1, 0), BAD);
    due("lie(0, 2)", x.lie(0, 2), BAD);
    due("lie(0, -1)", x.lie(0, -1), BAD);
    x.size(5);
    due("all 120 bring r4 the last", x.lie(4, 1), 120);
    x.size(6);
    due("lie() of six", x.lie(0, 0), LONG);
    due("a wrong number comes first", x.lie(6, 0), BAD);
  }

  private static void text() {
    MatchLattice x = with(3, WHEEL);
    String printed = "0-1 1-2 2-0";
    due("text(1, -1)", x.text(1, -1), printed.length());
    for (int i = 0; i < printed.length(); i++) {
      due("text(1, " + i + ")", x.text(1, i), printed.charAt(i));
    }
    due("text(1, 11)", x.text(1, 11), NOT);
    due("text(3, -1)", x.text(3, -1), NOT);
    due("text(-1, 0)", x.text(-1, 0), BAD);
    due("text(0, -2)", x.text(0, -2), BAD);
    due("text(9, -2)", x.text(9, -2), BAD);
    x.size(1);
    due("a match of one", x.text(0, -1), 3);
  }

  private static void hand() {
    MatchLattice x = new MatchLattice();
    due("hand(0, 1)", x.hand(0, 1), NOT);
    due("whom one has already", x.hand(0, 1), 1);
    due("another one", x.hand(0, 2), 1);
    due("whom another one has", x.hand(1, 2), NOT);
    due("that one is alone", x.handed(0), NOT);
    due("hand(1, -1)", x.hand(1, -1), 2);
    due("alone already", x.hand(1, -1), NOT);
    due("all are alone", x.count(4), 3);
    due("hand(3, 0)", x.hand(3, 0), BAD);
    due("hand(-1, 0)", x.hand(-1, 0), BAD);
    due("hand(0, 3)", x.hand(0, 3), BAD);
    due("hand(0, -2)", x.hand(0, -2), BAD);
  }

  private static void handed() {
    MatchLattice x = new MatchLattice();
    due("handed(0)", x.handed(0), NOT);
    x.hand(0, 2);
    due("handed(0)", x.handed(0), 2);
    due("handed(3)", x.handed(3), BAD);
    due("handed(-1)", x.handed(-1), BAD);
    tell(x, WHEEL);
    due("lists leave it", x.handed(0), 2);
  }

  private static void blocks() {
    MatchLattice x = with(3, WHEEL);
    due("all alone", x.blocks(), 0);
    x.hand(0, 0);
    x.hand(1, 1);
    due("l1 would rather have none but r1", x.blocks(), 20);
    x.hand(2, 2);
    due("nobody", x.blocks(), NOT);
    x.hand(0, 2);
    x.hand(2, 0);
    due("l0 and r1", x.blocks(), 1);
  }

  private static void blocking() {
    MatchLattice x = with(3, WHEEL);
    due("all alone", x.blocking(), 9);
    x.hand(0, 0);
    due("l0 is content; both others and r1, r2, and r0", x.blocking(), 6);
    x.hand(1, 1);
    x.hand(2, 2);
    due("nobody", x.blocking(), 0);
  }

  private static void mended() {
    MatchLattice x = new MatchLattice();
    due("mended(-1)", x.mended(-1), 3);
    due("mended(2)", x.mended(2), 2);
    due("in thought", x.count(4), 3);
    x.hand(2, 0);
    due("from l2 with r0: l0 has r0, then the others", x.mended(-1), 3);
    due("mended(2)", x.mended(2), 2);
    due("mended(3)", x.mended(3), BAD);
    due("mended(-2)", x.mended(-2), BAD);
    x.hand(0, 0);
    x.hand(1, 1);
    x.hand(2, 2);
    due("nobody blocks", x.mended(-1), 0);
    MatchLattice z = with(8, MENDED_200_LEFTS);
    tell(z, MENDED_200_RIGHTS);
    due("200 times", z.mended(-1), 200);
    tell(z, MENDED_201_LEFTS);
    tell(z, MENDED_201_RIGHTS);
    due("201 times", z.mended(-1), LONG);
    due("whom l7 would have behind 201", z.mended(7), LONG);
    MatchLattice y = with(3, ENDLESS);
    due("without an end", y.mended(-1), LONG);
    due("whom l0 has then", y.mended(0), LONG);
    due("a wrong number comes first", y.mended(3), BAD);
  }

  private static void known() {
    MatchLattice x = with(3, WHEEL);
    due("all alone", x.known(), NOT);
    x.hand(0, 1);
    x.hand(1, 2);
    due("somebody alone", x.known(), NOT);
    x.hand(2, 0);
    due("match 1", x.known(), 1);
    x.hand(0, 0);
    x.hand(1, 2);
    x.hand(2, 1);
    due("not stable", x.known(), NOT);
    x.hand(0, 2);
    x.hand(1, 0);
    x.hand(2, 1);
    due("the last match", x.known(), 2);
    x.stir(0, 0, 0);
    due("by other lists", x.known(), 1);
  }

  private static void imageAndBack() {
    MatchLattice x = new MatchLattice();
    due("back() without an image", x.back(), STATE);
    tell(x, WHEEL);
    x.hand(1, 2);
    due("image()", x.image(), 3);
    due("image() leaves changes", x.count(2), 1);
    x.stir(0, 0, 0);
    x.undo();
    x.hand(1, -1);
    x.feed('l');
    due("back()", x.back(), 3);
    due("no changes then", x.count(2) + x.count(3), 0);
    due("the tape stays", x.count(1), 1);
    due("the match by hand", x.handed(1), 2);
    due("list of l1", listOf(x, 0, 1), 120);
    x.size(5);
    due("back() once more", x.back(), 3);
    due("matches", x.match(-1), 3);
    x.size(4);
    due("image() of four", x.image(), 4);
    x.size(2);
    due("back() to four", x.back(), 4);
    due("count(0)", x.count(0), 4);
    due("handed(1)", x.handed(1), NOT);
    x.stir(0, 0, 0);
    due("a change behind it can be undone", x.undo(), 0);
    due("list of l0", listOf(x, 0, 0), 123);
  }

  private static void count() {
    MatchLattice x = with(3, WHEEL);
    x.stir(0, 0, 0);
    x.stir(0, 0, 0);
    x.undo();
    x.feed('l');
    x.hand(0, 2);
    int[] counts = {3, 1, 2, 1, 2};
    for (int what = 0; what < 5; what++) {
      due("count(" + what + ")", x.count(what), counts[what]);
    }
    due("count(5)", x.count(5), BAD);
    due("count(-1)", x.count(-1), BAD);
  }

  private static void refusalsChangeNothing() {
    MatchLattice x = with(3, WHEEL);
    x.hand(0, 0);
    x.feed('l');
    int[] odd = {Integer.MIN_VALUE, -2, 9, Integer.MAX_VALUE};
    for (int number : odd) {
      x.size(number);
      x.feed(number);
      x.stir(number, 0, 0);
      x.stir(0, number, 0);
      x.stir(0, 0, number);
      x.stirred(0, 0, number);
      x.hand(number, 0);
      x.hand(0, number);
    }
    int[] counts = {3, 1, 1, 0, 2};
    for (int what = 0; what < 5; what++) {
      due("count(" + what + ")", x.count(what), counts[what]);
    }
    due("match(-1)", x.match(-1), 3);
    due("handed(0)", x.handed(0), 0);
  }
}
