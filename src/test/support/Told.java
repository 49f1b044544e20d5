/** Lists that are told to new objects, and what is read of an object by its own calls. */
final class Told {
  /** Two turns of three, one ahead of the other, and three matches. */
  static final String WHEEL = "l0:012;l1:120;l2:201;r0:120;r1:201;r2:012";
  /** One turn of two, which gains 1; left 2 and right 2 have each other for good. */
  static final String GAINING = "l0:021;l1:102;l2:201;r0:120;r1:021;r2:201";
  /** As GAINING, but the turn loses 1. */
  static final String LOSING = "l0:021;l1:102;l2:201;r0:102;r1:012;r2:201";
  /** Two turns of two, none ahead of the other, and four matches. */
  static final String TWO_PAIRS = "l0:0123;l1:1023;l2:2301;l3:3201;r0:1023;r1:0123;r2:3201;r3:2301";
  /** As TWO_PAIRS, but lefts 0 and 3 go round, and 1 and 2. */
  static final String NESTED = "l0:0312;l1:1203;l2:2103;l3:3012;r0:3012;r1:2103;r2:1203;r3:0312";
  /** One turn, of lefts 1 and 2: left 0 has a next, whose left is in the turn, but is in none. */
  static final String TAIL = "l0:210;l1:102;l2:021;r0:120;r1:201;r2:102";
  /** One turn: left 0, then 2, then 1. */
  static final String UNEVEN = "l0:210;l1:012;l2:102;r0:210;r1:021;r2:120";
  /** Turn 0 is of lefts 0 and 2, turn 1 of 1 and 3, and yet the one is ahead of the other. */
  static final String APART = "l0:2130;l1:0231;l2:1032;l3:3210;r0:3012;r1:0123;r2:2310;r3:0132";
  /** Turn 1 of lefts 1 and 3 is exposed once turn 0 of 0 and 2 is done: left 3 passes over right 0 then. */
  static final String PASSED_OVER = "l0:0213;l1:1320;l2:2013;l3:3012;r0:2301;r1:3012;r2:3102;r3:2130";
  /** Two turns, none ahead of the other, though rights are passed over. */
  static final String PASSED_BOTH = "l0:350421;l1:143250;l2:451320;l3:320514;l4:035412;l5:431052;"
      + "r0:150423;r1:250143;r2:501243;r3:154032;r4:241035;r5:432510";
  /** As APART, of more: some are ahead of others with whom they share no left. */
  static final String APART_OF_FIVE = "l0:02134;l1:32014;l2:34120;l3:01342;l4:14302;"
      + "r0:42301;r1:12304;r2:34210;r3:40132;r4:10342";
  static final String APART_OF_SIX = "l0:530124;l1:142530;l2:410523;l3:340512;l4:542103;l5:250431;"
      + "r0:145320;r1:405213;r2:304215;r3:253401;r4:130452;r5:354012";
  /** Turns 0, 1, 2 and 0, 3 are rows of which one is ahead of the next; turn 4 is behind both. */
  static final String FORK = "l0:21043;l1:23410;l2:02134;l3:14230;l4:41203;"
      + "r0:43102;r1:20143;r2:40213;r3:20314;r4:13420";
  /** Turn 0 loses 1, turn 1 gains 2 behind it. */
  static final String LOSING_FIRST = "l0:0321;l1:2031;l2:3021;l3:1023;r0:3012;r1:2013;r2:0321;r3:3102";
  /** Turn 0 gains 1, turn 1 loses 2 behind it, turn 2 gains 1 behind both. */
  static final String GAINING_FIRST = "l0:0123;l1:3021;l2:2103;l3:1203;r0:3210;r1:1203;r2:1320;r3:2301";
  /** Turn 0 loses 1, turn 1 gains 1 behind it; matches 1 and 2 have the same greatest place. */
  static final String NOTHING_GAINED = "l0:1032;l1:1230;l2:2301;l3:3021;r0:2103;r1:1320;r2:1320;r3:1023";
  /** Three turns in a row, of which the last one gains. */
  static final String GAINING_LAST = "l0:0321;l1:3201;l2:1023;l3:2031;r0:2103;r1:1302;r2:2013;r3:2310";
  /** Three turns of two, none ahead of another, and eight matches. */
  static final String THREE_PAIRS = "l0:012345;l1:102345;l2:230145;l3:320145;l4:450123;l5:540123;"
      + "r0:102345;r1:012345;r2:320145;r3:230145;r4:540123;r5:450123";
  /** Matches 1 and 2 have the same least cost 2. */
  static final String LIKE_SUMS = "l0:210;l1:120;l2:021;r0:012;r1:021;r2:210";
  /** Matches 1 and 2 have the same least cost 3. */
  static final String LIKE_DIFFERENCES = "l0:120;l1:012;l2:210;r0:021;r1:120;r2:102";
  /** Right 0 has left 0; by the lie 1, 2, 0 it has left 1. */
  static final String LIAR = "l0:012;l1:102;l2:012;r0:102;r1:012;r2:012";
  /** Rights 0, 1, 2 have by a lie a better one than without. */
  static final String LIAR_OF_FIVE = "l0:14230;l1:21430;l2:02413;l3:20314;l4:01423;"
      + "r0:32401;r1:20413;r2:02341;r3:04213;r4:13024";
  /** Mending goes round and round. */
  static final String ENDLESS = "l0:021;l1:201;l2:102;r0:210;r1:021;r2:012";
  /** Mended 200 times, when all are alone at first. */
  static final String MENDED_200 = "l0:10543672;l1:10764325;l2:35026471;l3:65342170;l4:36752401;l5:72435106;"
      + "l6:75342610;l7:61034257;r0:17456230;r1:72346501;r2:41620573;r3:63175420;r4:15674203;r5:53647201;"
      + "r6:71305264;r7:70142635";
  /** Mended 201 times, when all are alone at first. */
  static final String MENDED_201 = "l0:01234765;l1:57621043;l2:16432075;l3:45362071;l4:76123504;l5:26145073;"
      + "l6:74321506;l7:35462170;r0:61450237;r1:73105426;r2:67254130;r3:65173402;r4:46531072;r5:73564012;"
      + "r6:47530126;r7:25614037";

  private Told() {
  }

  static MatchLattice with(String text) {
    MatchLattice x = new MatchLattice();
    tellNew(x, text);
    return x;
  }

  /** n, as it is in the text, and the lists of both sides in two texts, so that each fits on the tape. */
  static void tellNew(MatchLattice x, String text) {
    x.size(text.indexOf(';') - 3);
    int rights = text.indexOf(";r0");
    tell(x, text.substring(0, rights));
    tell(x, text.substring(rights + 1));
  }

  static MatchLattice of(int n) {
    MatchLattice x = new MatchLattice();
    x.size(n);
    return x;
  }

  static int tell(MatchLattice x, String text) {
    feed(x, text);
    return x.lists();
  }

  static void feed(MatchLattice x, String text) {
    for (int i = 0; i < text.length(); i++) {
      x.feed(text.charAt(i));
    }
  }

  /** Of 2, 4 and 8: 1, 6 and 28 turns of two, 2, 10 and 268 matches. */
  static String doubled(int n) {
    StringBuilder text = new StringBuilder();
    for (int one = 0; one < n; one++) {
      text.append(one == 0 ? "l" : ";l").append(one).append(':');
      for (int place = 0; place < n; place++) {
        text.append(one ^ place);
      }
    }
    for (int one = 0; one < n; one++) {
      text.append(";r").append(one).append(':');
      for (int place = 0; place < n; place++) {
        text.append(one ^ (n - 1 - place));
      }
    }
    return text.toString();
  }

  /** n - 1 turns of all n, each ahead of the next. */
  static String turned(int n) {
    StringBuilder text = new StringBuilder();
    for (int one = 0; one < n; one++) {
      text.append(one == 0 ? "l" : ";l").append(one).append(':');
      for (int place = 0; place < n; place++) {
        text.append((one + place) % n);
      }
    }
    for (int one = 0; one < n; one++) {
      text.append(";r").append(one).append(':');
      for (int place = 0; place < n; place++) {
        text.append((one + 1 + place) % n);
      }
    }
    return text.toString();
  }

  /** Lefts ask as often as ever they can: each right but the last is asked by all, the last one once. */
  static String muchAsked(int n) {
    StringBuilder text = new StringBuilder();
    for (int one = 0; one < n; one++) {
      text.append(one == 0 ? "l" : ";l").append(one).append(':');
      for (int place = 0; place < n - 1; place++) {
        text.append((one % (n - 1) + place) % (n - 1));
      }
      text.append(n - 1);
    }
    for (int one = 0; one < n; one++) {
      text.append(";r").append(one).append(':');
      for (int place = 0; place < n; place++) {
        text.append((one + 1 + place) % n);
      }
    }
    return text.toString();
  }

  static String listOf(MatchLattice x, int side, int one) {
    int n = x.count(0);
    StringBuilder figures = new StringBuilder();
    for (int place = 0; place < n; place++) {
      figures.append(x.list(side, one, place));
    }
    return figures.toString();
  }

  static String listsOf(MatchLattice x) {
    int n = x.count(0);
    StringBuilder all = new StringBuilder();
    for (int side = 0; side < 2; side++) {
      for (int one = 0; one < n; one++) {
        all.append(all.length() == 0 ? "" : ";").append(side == 0 ? 'l' : 'r').append(one).append(':');
        for (int place = 0; place < n; place++) {
          all.append(x.list(side, one, place));
        }
      }
    }
    return all.toString();
  }

  /** Whom each left has by hand, - for nobody. */
  static String handOf(MatchLattice x) {
    int n = x.count(0);
    StringBuilder hand = new StringBuilder();
    for (int left = 0; left < n; left++) {
      int right = x.handed(left);
      hand.append(right == MatchLattice.NOT ? "-" : "" + right);
    }
    return hand.toString();
  }

  static void handAll(MatchLattice x, String rights) {
    for (int left = 0; left < rights.length(); left++) {
      x.hand(left, rights.charAt(left) == '-' ? -1 : rights.charAt(left) - '0');
    }
  }

  static String countsOf(MatchLattice x) {
    StringBuilder counts = new StringBuilder();
    for (int what = 0; what < 5; what++) {
      counts.append(what == 0 ? "" : " ").append(x.count(what));
    }
    return counts.toString();
  }

  static String stateOf(MatchLattice x) {
    return listsOf(x) + " | " + handOf(x) + " | " + countsOf(x) + " | " + x.match(-1);
  }

  /** The state, and all states that can be undone to and done again to; at the end it is as it was. */
  static String wholeStateOf(MatchLattice x) {
    StringBuilder states = new StringBuilder(stateOf(x));
    int undos = x.count(2);
    int redos = x.count(3);
    for (int i = 0; i < undos; i++) {
      states.append("\n").append(x.undo()).append(listsOf(x));
    }
    for (int i = 0; i < undos + redos; i++) {
      states.append("\n").append(x.redo()).append(listsOf(x));
    }
    for (int i = 0; i < redos; i++) {
      states.append("\n").append(x.undo()).append(listsOf(x));
    }
    return states.toString();
  }

  /** The rights that lefts 0, 1, .. have in a match. */
  static String matchOf(MatchLattice x, int m) {
    int n = x.count(0);
    StringBuilder rights = new StringBuilder();
    for (int left = 0; left < n; left++) {
      rights.append(x.has(m, 0, left));
    }
    return rights.toString();
  }

  static String bestOf(MatchLattice x, int side) {
    int n = x.count(0);
    StringBuilder rights = new StringBuilder();
    for (int left = 0; left < n; left++) {
      rights.append(x.best(side, left, 0));
    }
    return rights.toString();
  }

  static String turnOf(MatchLattice x, int t) {
    StringBuilder pairs = new StringBuilder();
    int many = x.rounds(t);
    for (int k = 0; k < many; k++) {
      int pair = x.pair(t, k);
      pairs.append(k == 0 ? "" : " ").append(pair / 10).append(pair % 10);
    }
    return pairs.toString();
  }

  /** Rights by lefts behind a turn: each of its lefts has the right of the next pair, the last one of the first. */
  static String behind(String rights, String turn) {
    String[] pairs = turn.split(" ");
    char[] behind = rights.toCharArray();
    for (int k = 0; k < pairs.length; k++) {
      behind[pairs[k].charAt(0) - '0'] = pairs[(k + 1) % pairs.length].charAt(1);
    }
    return new String(behind);
  }

  static String askingOf(MatchLattice x, int side) {
    StringBuilder asked = new StringBuilder();
    int many = x.asking(side, -1);
    for (int i = 0; i < many; i++) {
      asked.append(i == 0 ? "" : " ").append(x.asking(side, i));
    }
    return asked.toString();
  }

  static String textOf(MatchLattice x, int m) {
    StringBuilder text = new StringBuilder();
    int many = x.text(m, -1);
    for (int i = 0; i < many; i++) {
      text.append((char) x.text(m, i));
    }
    return text.toString();
  }

  static int placeOf(MatchLattice x, int side, int one, int who) {
    int place = 0;
    while (x.list(side, one, place) != who) {
      place++;
    }
    return place;
  }
}
