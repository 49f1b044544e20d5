/**
 * Two sides who would match, all their stable matches, and the turns that lead from one to the next.
 *
 * What each call answers is said in ../shared/DOC.md; the words in capitals here are that document's.
 * All rows are made when an object is made, and used again by every call.
 */
public final class MatchLattice {
    public static final int BAD = -1, NOT = -2, FULL = -3, STATE = -5, LONG = -7;

    private static final int LEFT = 0;
    private static final int RIGHT = 1;
    /** No left, no right, no turn; also what a row answers outside of itself. */
    private static final int NOBODY = -1;

    private static final int EACH_AT_FIRST = 3;
    private static final int MOST_EACH = 8;
    private static final int MOST_BYTES = 120;
    private static final int MOST_CHANGES = 12;
    private static final int MOST_MENDINGS = 200;
    private static final int MOST_EACH_TO_LIE = 5;
    /** Each turn moves two lefts or more, and a left can move seven times: 8 * 7 / 2. */
    private static final int MOST_TURNS = 28;
    /**
     * Turns of which none is ahead of another share no left, so there are four such at most: the 28 turns
     * fall into four chains, and a closed set takes 0 .. 7 of each: 8 * 8 * 8 * 8 if they are as even as can be.
     */
    private static final int MOST_MATCHES = 4096;

    private final Tape tape;
    private final Lists told;
    /** Lists in thought: of a text that may have a fault, of a right that lies. */
    private final Lists draft;
    private final History history;
    private final Asking asked;
    private final Turns turns;
    private final Matches matches;
    private final Pairing byHand;
    private final Pairing afterMending;
    private final Image kept;
    /** Whether turns and matches are those of the lists as they are. */
    private boolean settled;

    public MatchLattice() {
        tape = new Tape();
        told = new Lists();
        draft = new Lists();
        history = new History();
        asked = new Asking();
        turns = new Turns();
        matches = new Matches();
        byHand = new Pairing();
        afterMending = new Pairing();
        kept = new Image();
        told.begin(EACH_AT_FIRST);
        history.forget(told);
        settled = false;
    }

    // ---- lists

    public int size(int n) {
        if (n < 1 || n > MOST_EACH) {
            return BAD;
        }
        int before = told.each();
        told.begin(n);
        byHand.clear();
        history.forget(told);
        settled = false;
        return before;
    }

    public int feed(int letter) {
        if (letter < 32 || letter > 126) {
            return BAD;
        }
        return tape.add(letter) ? tape.length() : FULL;
    }

    public int lists() {
        draft.copyFrom(told);
        int answer = tape.readInto(draft);
        tape.clear();
        if (answer < 0) {
            return answer;
        }
        told.copyFrom(draft);
        history.note(told);
        settled = false;
        return answer;
    }

    public int list(int side, int one, int place) {
        if (!isSide(side) || !isOne(one) || !isOne(place)) {
            return BAD;
        }
        return told.who(side, one, place);
    }

    public int stir(int side, int one, int place) {
        if (!canStir(side, one, place)) {
            return BAD;
        }
        told.exchange(side, one, place);
        history.note(told);
        settled = false;
        return told.who(side, one, place);
    }

    public int stirred(int side, int one, int place) {
        if (!canStir(side, one, place)) {
            return BAD;
        }
        told.exchange(side, one, place);
        settled = false;
        settle();
        int ways = matches.total();
        told.exchange(side, one, place);
        settled = false;
        return ways;
    }

    public int undo() {
        if (history.behind() == 0) {
            return STATE;
        }
        history.stepBack(told);
        settled = false;
        return history.behind();
    }

    public int redo() {
        if (history.before() == 0) {
            return STATE;
        }
        history.stepOn(told);
        settled = false;
        return history.before();
    }

    // ---- asking

    public int best(int side, int one, int by) {
        if (!isSide(side) || !isOne(one) || by < -1 || by > 0) {
            return BAD;
        }
        asked.run(told, side);
        return asked.outcome().partner(by == 0 ? LEFT : RIGHT, one);
    }

    public int asking(int side, int i) {
        if (!isSide(side) || i < -1) {
            return BAD;
        }
        asked.run(told, side);
        if (i == -1) {
            return asked.times();
        }
        return i < asked.times() ? asked.told(i) : NOT;
    }

    // ---- turns

    public int rounds(int t) {
        if (t < -1) {
            return BAD;
        }
        settle();
        if (t == -1) {
            return turns.total();
        }
        return turns.isTurn(t) ? turns.length(t) : NOT;
    }

    public int pair(int t, int k) {
        if (t < 0 || k < 0) {
            return BAD;
        }
        settle();
        if (!turns.isTurn(t) || k >= turns.length(t)) {
            return NOT;
        }
        return 10 * turns.left(t, k) + turns.right(t, k);
    }

    public int ahead(int t) {
        if (t < 0) {
            return BAD;
        }
        settle();
        return turns.isTurn(t) ? turns.needs(t) : NOT;
    }

    public int of(int t, int what) {
        if (t < 0 || what < 0 || what > 1) {
            return BAD;
        }
        settle();
        if (!turns.isTurn(t)) {
            return NOT;
        }
        return what == 0 ? turns.depth(t) : 1000 + turns.gain(t);
    }

    public int exposed(int m) {
        if (m < 0) {
            return BAD;
        }
        settle();
        return matches.isMatch(m) ? turns.openTo(matches.bits(m)) : NOT;
    }

    // ---- matches

    public int match(int m) {
        if (m < -1) {
            return BAD;
        }
        settle();
        if (m == -1) {
            return matches.total();
        }
        return matches.isMatch(m) ? matches.bits(m) : NOT;
    }

    public int has(int m, int side, int one) {
        if (m < 0 || !isSide(side) || !isOne(one)) {
            return BAD;
        }
        settle();
        return matches.isMatch(m) ? matches.load(m, turns).partner(side, one) : NOT;
    }

    public int cost(int m, int which) {
        if (m < 0 || !isCost(which)) {
            return BAD;
        }
        settle();
        return matches.isMatch(m) ? told.costOf(matches.load(m, turns), which) : NOT;
    }

    public int pick(int which) {
        if (!isCost(which)) {
            return BAD;
        }
        settle();
        int picked = 0;
        int least = told.costOf(matches.load(0, turns), which);
        for (int m = 1; m < matches.total(); m++) {
            int cost = told.costOf(matches.load(m, turns), which);
            if (cost < least) {
                least = cost;
                picked = m;
            }
        }
        return picked;
    }

    public int most() {
        settle();
        int greatest = 0;
        for (int m = 0; m < matches.total(); m++) {
            greatest = Math.max(greatest, turns.gainOfAll(matches.bits(m)));
        }
        return greatest;
    }

    public int either(int m, int other, int which) {
        if (m < 0 || other < 0 || which < 0 || which > 1) {
            return BAD;
        }
        settle();
        if (!matches.isMatch(m) || !matches.isMatch(other)) {
            return NOT;
        }
        int one = matches.bits(m);
        int two = matches.bits(other);
        return matches.numberOf(which == 0 ? one & two : one | two);
    }

    public int middle(int a, int b, int c) {
        if (a < 0 || b < 0 || c < 0) {
            return BAD;
        }
        settle();
        if (!matches.isMatch(a) || !matches.isMatch(b) || !matches.isMatch(c)) {
            return NOT;
        }
        int one = matches.bits(a);
        int two = matches.bits(b);
        int three = matches.bits(c);
        // A left goes down its list by each of its turns: the middle match has done what two of the three did.
        return matches.numberOf(one & two | two & three | one & three);
    }

    public int may(int side, int one) {
        if (!isSide(side) || !isOne(one)) {
            return BAD;
        }
        settle();
        // Who is had in any match is left by a turn, or still there behind all turns.
        int last = matches.load(matches.total() - 1, turns).partner(side, one);
        return turns.partnersLeft(side, one) | 1 << last;
    }

    public int fixed() {
        settle();
        // A left never comes back to whom it had ahead of a turn.
        return ((1 << told.each()) - 1) & ~turns.movers();
    }

    public int lie(int right, int what) {
        if (!isOne(right) || what < 0 || what > 1) {
            return BAD;
        }
        if (told.each() > MOST_EACH_TO_LIE) {
            return LONG;
        }
        draft.copyFrom(told);
        int best = told.each();
        int ways = 0;
        int orders = told.orders();
        for (int order = 0; order < orders; order++) {
            draft.arrange(RIGHT, right, order);
            asked.run(draft, LEFT);
            int place = told.place(RIGHT, right, asked.outcome().partner(RIGHT, right));
            if (place < best) {
                best = place;
                ways = 0;
            }
            if (place == best) {
                ways++;
            }
        }
        return what == 0 ? best : ways;
    }

    public int text(int m, int i) {
        if (m < 0 || i < -1) {
            return BAD;
        }
        settle();
        int length = 4 * told.each() - 1;
        if (!matches.isMatch(m) || i >= length) {
            return NOT;
        }
        return i == -1 ? length : printed(matches.load(m, turns), i);
    }

    // ---- by hand

    public int hand(int left, int right) {
        if (!isOne(left) || (right != -1 && !isOne(right))) {
            return BAD;
        }
        int before = byHand.partner(LEFT, left);
        if (right == -1) {
            byHand.part(LEFT, left);
        } else {
            byHand.join(LEFT, left, right);
        }
        return orNot(before);
    }

    public int handed(int left) {
        if (!isOne(left)) {
            return BAD;
        }
        return orNot(byHand.partner(LEFT, left));
    }

    public int blocks() {
        return orNot(told.firstBlock(byHand));
    }

    public int blocking() {
        return told.howManyBlock(byHand);
    }

    public int mended(int left) {
        if (left != -1 && !isOne(left)) {
            return BAD;
        }
        int times = mend();
        if (times == LONG || left == -1) {
            return times;
        }
        return orNot(afterMending.partner(LEFT, left));
    }

    public int known() {
        // Somebody alone would block: of each side there are as many, so that one of the other is alone, too.
        if (told.firstBlock(byHand) != NOBODY) {
            return NOT;
        }
        settle();
        return matches.numberOf(turns.behind(byHand, told));
    }

    // ---- the image

    public int image() {
        kept.take(told, byHand);
        return told.each();
    }

    public int back() {
        if (!kept.isThere()) {
            return STATE;
        }
        kept.layBack(told, byHand);
        history.forget(told);
        settled = false;
        return told.each();
    }

    public int count(int what) {
        switch (what) {
            case 0:
                return told.each();
            case 1:
                return tape.length();
            case 2:
                return history.behind();
            case 3:
                return history.before();
            case 4:
                return leftsAlone();
            default:
                return BAD;
        }
    }

    // ---- what the calls share

    private static boolean isSide(int side) {
        return side == LEFT || side == RIGHT;
    }

    private static boolean isCost(int which) {
        return which >= 0 && which <= 4;
    }

    /** Of one of a side and of a place on a list alike: both go up to the same number. */
    private boolean isOne(int one) {
        return one >= 0 && one < told.each();
    }

    private boolean canStir(int side, int one, int place) {
        return isSide(side) && isOne(one) && place >= 0 && place < told.each() - 1;
    }

    private static int orNot(int answer) {
        return answer == NOBODY ? NOT : answer;
    }

    private void settle() {
        if (settled) {
            return;
        }
        asked.run(told, LEFT);
        turns.find(told, asked.outcome());
        matches.find(turns, asked.outcome());
        settled = true;
    }

    private static int printed(Pairing pairing, int i) {
        int left = i / 4;
        switch (i % 4) {
            case 0:
                return '0' + left;
            case 1:
                return '-';
            case 2:
                return '0' + pairing.partner(LEFT, left);
            default:
                return ' ';
        }
    }

    /** How many times, with the outcome left in afterMending; LONG, if somebody blocks even then. */
    private int mend() {
        afterMending.copyFrom(byHand);
        for (int times = 0; times <= MOST_MENDINGS; times++) {
            int block = told.firstBlock(afterMending);
            if (block == NOBODY) {
                return times;
            }
            afterMending.join(LEFT, block / 10, block % 10);
        }
        return LONG;
    }

    private int leftsAlone() {
        int alone = 0;
        for (int left = 0; left < told.each(); left++) {
            if (byHand.partner(LEFT, left) == NOBODY) {
                alone++;
            }
        }
        return alone;
    }

    /** Numbers in a row of a length that stays: outside of it nothing is read and nothing written. */
    private static final class Row {
        private final int[] cells;

        Row(int length) {
            cells = new int[length < 0 ? 0 : length];
        }

        int get(int i) {
            return i >= 0 && i < cells.length ? cells[i] : NOBODY;
        }

        void set(int i, int value) {
            if (i >= 0 && i < cells.length) {
                cells[i] = value;
            }
        }

        void fill(int value) {
            for (int i = 0; i < cells.length; i++) {
                cells[i] = value;
            }
        }

        void copyFrom(Row other) {
            for (int i = 0; i < cells.length; i++) {
                cells[i] = other.get(i);
            }
        }
    }

    /** The bytes that were fed, and how they are read as a text of lists. */
    private static final class Tape {
        private final Row bytes;
        private int length;

        Tape() {
            bytes = new Row(MOST_BYTES);
            length = 0;
        }

        int length() {
            return length;
        }

        boolean add(int letter) {
            if (length >= MOST_BYTES) {
                return false;
            }
            bytes.set(length, letter);
            length++;
            return true;
        }

        void clear() {
            length = 0;
        }

        /** How many lines, or -100 less the fault; by a fault the target may have some of the lines already. */
        int readInto(Lists target) {
            int at = 0;
            for (int line = 1; line <= MOST_BYTES; line++) {
                int end = readLine(at, target);
                if (end < 0 || end == length) {
                    return end < 0 ? end : line;
                }
                if (byteAt(end) != ';') {
                    return faultAt(end);
                }
                at = end + 1;
            }
            return faultAt(at);
        }

        /** The place behind the line, or -100 less the fault. */
        private int readLine(int at, Lists target) {
            int side = sideAt(at);
            if (side == NOBODY) {
                return faultAt(at);
            }
            int one = figureAt(at + 1, target.each());
            if (one == NOBODY) {
                return faultAt(at + 1);
            }
            if (byteAt(at + 2) != ':') {
                return faultAt(at + 2);
            }
            return readFigures(at + 3, target, side, one);
        }

        private int readFigures(int at, Lists target, int side, int one) {
            int seen = 0;
            for (int place = 0; place < target.each(); place++) {
                int who = figureAt(at + place, target.each());
                if (who == NOBODY || (seen >> who & 1) == 1) {
                    return faultAt(at + place);
                }
                seen |= 1 << who;
                target.put(side, one, place, who);
            }
            return at + target.each();
        }

        private int sideAt(int at) {
            switch (byteAt(at)) {
                case 'l':
                    return LEFT;
                case 'r':
                    return RIGHT;
                default:
                    return NOBODY;
            }
        }

        private int figureAt(int at, int each) {
            int figure = byteAt(at) - '0';
            return figure >= 0 && figure < each ? figure : NOBODY;
        }

        /** Behind the end there is a byte that no text has, so that the length itself is the fault. */
        private int byteAt(int at) {
            return at < length ? bytes.get(at) : NOBODY;
        }

        private static int faultAt(int at) {
            return -100 - at;
        }
    }

    /** Whom each of both sides would rather have: by places, and the other way round. */
    private static final class Lists {
        private final Row whos;
        private final Row places;
        private int each;

        Lists() {
            whos = new Row(2 * MOST_EACH * MOST_EACH);
            places = new Row(2 * MOST_EACH * MOST_EACH);
            each = 0;
        }

        int each() {
            return each;
        }

        void begin(int n) {
            each = n;
            for (int one = 0; one < n; one++) {
                for (int place = 0; place < n; place++) {
                    put(LEFT, one, place, place);
                    put(RIGHT, one, place, place);
                }
            }
        }

        void copyFrom(Lists other) {
            each = other.each;
            whos.copyFrom(other.whos);
            places.copyFrom(other.places);
        }

        int who(int side, int one, int place) {
            return whos.get(cell(side, one, place));
        }

        int place(int side, int one, int who) {
            return places.get(cell(side, one, who));
        }

        boolean wouldRather(int side, int one, int who, int current) {
            return current == NOBODY || place(side, one, who) < place(side, one, current);
        }

        void put(int side, int one, int place, int who) {
            whos.set(cell(side, one, place), who);
            places.set(cell(side, one, who), place);
        }

        void exchange(int side, int one, int place) {
            int first = who(side, one, place);
            int second = who(side, one, place + 1);
            put(side, one, place, second);
            put(side, one, place + 1, first);
        }

        /** How many orders a list can have. */
        int orders() {
            int orders = 1;
            for (int free = each; free > 1; free--) {
                orders *= free;
            }
            return orders;
        }

        /** One's list in the order of this number, each number of orders() another one. */
        void arrange(int side, int one, int order) {
            int used = 0;
            int rest = order;
            for (int free = each; free > 0; free--) {
                int who = unused(used, rest % free);
                rest = rest / free;
                used |= 1 << who;
                put(side, one, each - free, who);
            }
        }

        private int unused(int used, int skip) {
            int skipped = 0;
            for (int who = 0; who < each; who++) {
                if ((used >> who & 1) == 0) {
                    if (skipped == skip) {
                        return who;
                    }
                    skipped++;
                }
            }
            return 0;
        }

        boolean doBlock(Pairing pairing, int left, int right) {
            int hers = pairing.partner(RIGHT, right);
            return hers != left
                    && wouldRather(LEFT, left, right, pairing.partner(LEFT, left))
                    && wouldRather(RIGHT, right, left, hers);
        }

        /** 10 times the left, and the right. */
        int firstBlock(Pairing pairing) {
            for (int left = 0; left < each; left++) {
                for (int right = 0; right < each; right++) {
                    if (doBlock(pairing, left, right)) {
                        return 10 * left + right;
                    }
                }
            }
            return NOBODY;
        }

        int howManyBlock(Pairing pairing) {
            int blocks = 0;
            for (int left = 0; left < each; left++) {
                for (int right = 0; right < each; right++) {
                    if (doBlock(pairing, left, right)) {
                        blocks++;
                    }
                }
            }
            return blocks;
        }

        int costOf(Pairing pairing, int which) {
            int lefts = 0;
            int rights = 0;
            int greatest = 0;
            for (int left = 0; left < each; left++) {
                int right = pairing.partner(LEFT, left);
                int leftsPlace = place(LEFT, left, right);
                int rightsPlace = place(RIGHT, right, left);
                lefts += leftsPlace;
                rights += rightsPlace;
                greatest = Math.max(greatest, Math.max(leftsPlace, rightsPlace));
            }
            switch (which) {
                case 0:
                    return lefts;
                case 1:
                    return rights;
                case 2:
                    return lefts + rights;
                case 3:
                    return Math.abs(lefts - rights);
                default:
                    return greatest;
            }
        }

        void saveTo(Row row, int start) {
            for (int i = 0; i < 2 * MOST_EACH * MOST_EACH; i++) {
                row.set(start + i, whos.get(i));
            }
        }

        void loadFrom(Row row, int start) {
            for (int i = 0; i < 2 * MOST_EACH * MOST_EACH; i++) {
                whos.set(i, row.get(start + i));
            }
            for (int one = 0; one < each; one++) {
                for (int place = 0; place < each; place++) {
                    put(LEFT, one, place, who(LEFT, one, place));
                    put(RIGHT, one, place, who(RIGHT, one, place));
                }
            }
        }

        private static int cell(int side, int one, int third) {
            boolean inside = (side == LEFT || side == RIGHT) && one >= 0 && one < MOST_EACH
                    && third >= 0 && third < MOST_EACH;
            return inside ? (side * MOST_EACH + one) * MOST_EACH + third : NOBODY;
        }
    }

    /** The lists as they are and were, in a ring: a change more than can be kept lets go the oldest. */
    private static final class History {
        private static final int STEPS = MOST_CHANGES + 1;
        private static final int STEP_LENGTH = 2 * MOST_EACH * MOST_EACH;

        private final Row steps;
        private int oldest;
        private int behind;
        private int before;

        History() {
            steps = new Row(STEPS * STEP_LENGTH);
            oldest = 0;
            behind = 0;
            before = 0;
        }

        /** How many changes may be undone. */
        int behind() {
            return behind;
        }

        /** How many changes may be done again. */
        int before() {
            return before;
        }

        void forget(Lists now) {
            behind = 0;
            before = 0;
            now.saveTo(steps, start());
        }

        void note(Lists changed) {
            if (behind < MOST_CHANGES) {
                behind++;
            } else {
                oldest = (oldest + 1) % STEPS;
            }
            before = 0;
            changed.saveTo(steps, start());
        }

        void stepBack(Lists target) {
            behind--;
            before++;
            target.loadFrom(steps, start());
        }

        void stepOn(Lists target) {
            behind++;
            before--;
            target.loadFrom(steps, start());
        }

        private int start() {
            return (oldest + behind) % STEPS * STEP_LENGTH;
        }
    }

    /** Who has whom, seen from both sides. */
    private static final class Pairing {
        private final Row partners;

        Pairing() {
            partners = new Row(2 * MOST_EACH);
            partners.fill(NOBODY);
        }

        void clear() {
            partners.fill(NOBODY);
        }

        void copyFrom(Pairing other) {
            partners.copyFrom(other.partners);
        }

        int partner(int side, int one) {
            return partners.get(cell(side, one));
        }

        void part(int side, int one) {
            int here = cell(side, one);
            int there = cell(1 - side, partners.get(here));
            partners.set(here, NOBODY);
            partners.set(there, NOBODY);
        }

        /** Whom they had are alone then. */
        void join(int side, int one, int other) {
            part(side, one);
            part(1 - side, other);
            tie(side, one, other);
        }

        /** Whom they had must be tied to others next, as those of a turn are. */
        void tie(int side, int one, int other) {
            partners.set(cell(side, one), other);
            partners.set(cell(1 - side, other), one);
        }

        private static int cell(int side, int one) {
            boolean inside = (side == LEFT || side == RIGHT) && one >= 0 && one < MOST_EACH;
            return inside ? side * MOST_EACH + one : NOBODY;
        }
    }

    /** Asking by one side, told from the start, and what came of it. */
    private static final class Asking {
        private static final int MOST_TIMES = MOST_EACH * MOST_EACH;

        private final Pairing outcome;
        private final Row askedAlready;
        private final Row told;
        private int times;

        Asking() {
            outcome = new Pairing();
            askedAlready = new Row(MOST_EACH);
            told = new Row(MOST_TIMES);
            times = 0;
        }

        Pairing outcome() {
            return outcome;
        }

        int times() {
            return times;
        }

        /** 100 times who asked, 10 times whom, and 1 for yes. */
        int told(int i) {
            return told.get(i);
        }

        void run(Lists lists, int side) {
            outcome.clear();
            askedAlready.fill(0);
            times = 0;
            for (int time = 0; time < MOST_TIMES; time++) {
                int asker = leastAlone(side, lists.each());
                if (asker == NOBODY) {
                    return;
                }
                ask(lists, side, asker);
            }
        }

        private int leastAlone(int side, int each) {
            for (int one = 0; one < each; one++) {
                if (outcome.partner(side, one) == NOBODY) {
                    return one;
                }
            }
            return NOBODY;
        }

        private void ask(Lists lists, int side, int asker) {
            int place = askedAlready.get(asker);
            int whom = lists.who(side, asker, place);
            askedAlready.set(asker, place + 1);
            boolean yes = lists.wouldRather(1 - side, whom, asker, outcome.partner(1 - side, whom));
            if (yes) {
                outcome.join(side, asker, whom);
            }
            told.set(times, 100 * asker + 10 * whom + (yes ? 1 : 0));
            times++;
        }
    }

    /** All turns as they come, what each gains, and which must be ahead of which. */
    private static final class Turns {
        private final Row lefts;
        private final Row rights;
        private final Row lengths;
        private final Row gains;
        private final Row needs;
        private final Row depths;
        private int total;
        /** The match that the turns found so far lead to, and the follower of each left in it. */
        private final Pairing now;
        private final Row followers;
        /** By which turn a left came to the right that it has; none: it had her at first. */
        private final Row broughtBy;
        /** By which turn a right came past a left on her list, so that she says no to it since. */
        private final Row passedBy;

        Turns() {
            lefts = new Row(MOST_TURNS * MOST_EACH);
            rights = new Row(MOST_TURNS * MOST_EACH);
            lengths = new Row(MOST_TURNS);
            gains = new Row(MOST_TURNS);
            needs = new Row(MOST_TURNS);
            depths = new Row(MOST_TURNS);
            total = 0;
            now = new Pairing();
            followers = new Row(MOST_EACH);
            broughtBy = new Row(MOST_EACH);
            passedBy = new Row(MOST_EACH * MOST_EACH);
        }

        int total() {
            return total;
        }

        boolean isTurn(int t) {
            return t >= 0 && t < total;
        }

        int length(int t) {
            return lengths.get(t);
        }

        int left(int t, int k) {
            return lefts.get(t * MOST_EACH + k);
        }

        int right(int t, int k) {
            return rights.get(t * MOST_EACH + k);
        }

        int gain(int t) {
            return gains.get(t);
        }

        /** The turns that are ahead of a turn, in bits. */
        int needs(int t) {
            return needs.get(t);
        }

        int depth(int t) {
            return depths.get(t);
        }

        /** The turns that are exposed behind a closed set: all that they need is in it, but not they. */
        int openTo(int bits) {
            int open = 0;
            for (int t = 0; t < total; t++) {
                if ((bits >> t & 1) == 0 && isReady(t, bits)) {
                    open |= 1 << t;
                }
            }
            return open;
        }

        boolean isReady(int t, int bits) {
            return (needs(t) & ~bits) == 0;
        }

        int gainOfAll(int bits) {
            int sum = 0;
            for (int t = 0; t < total; t++) {
                if ((bits >> t & 1) == 1) {
                    sum += gain(t);
                }
            }
            return sum;
        }

        /** Of one the partners in the pairs of all turns, in bits. */
        int partnersLeft(int side, int one) {
            int partners = 0;
            for (int t = 0; t < total; t++) {
                for (int k = 0; k < length(t); k++) {
                    if ((side == LEFT ? left(t, k) : right(t, k)) == one) {
                        partners |= 1 << (side == LEFT ? right(t, k) : left(t, k));
                    }
                }
            }
            return partners;
        }

        /** The lefts in the pairs of all turns, in bits. */
        int movers() {
            int lefts = 0;
            for (int t = 0; t < total; t++) {
                for (int k = 0; k < length(t); k++) {
                    lefts |= 1 << left(t, k);
                }
            }
            return lefts;
        }

        /** The turns, in bits, behind which a stable match comes: each left went down its list by them. */
        int behind(Pairing stable, Lists lists) {
            int bits = 0;
            for (int t = 0; t < total; t++) {
                int left = left(t, 0);
                if (lists.place(LEFT, left, stable.partner(LEFT, left)) > lists.place(LEFT, left, right(t, 0))) {
                    bits |= 1 << t;
                }
            }
            return bits;
        }

        void perform(int t, Pairing pairing) {
            for (int k = 0; k < length(t); k++) {
                pairing.tie(LEFT, left(t, k), right(t, following(t, k)));
            }
        }

        void find(Lists lists, Pairing first) {
            total = 0;
            now.copyFrom(first);
            broughtBy.fill(NOBODY);
            passedBy.fill(NOBODY);
            for (int t = 0; t < MOST_TURNS; t++) {
                for (int left = 0; left < lists.each(); left++) {
                    followers.set(left, now.partner(RIGHT, nextOf(left, lists)));
                }
                int leader = firstLeader(lists.each());
                if (leader == NOBODY) {
                    return;
                }
                keepPairs(t, leader);
                keepNeeds(t, lists);
                gains.set(t, weigh(t, lists));
                markPassed(t, lists);
                perform(t, now);
                total = t + 1;
            }
        }

        private int nextOf(int left, Lists lists) {
            int has = lists.place(LEFT, left, now.partner(LEFT, left));
            for (int place = has + 1; place < lists.each(); place++) {
                int right = lists.who(LEFT, left, place);
                if (lists.wouldRather(RIGHT, right, left, now.partner(RIGHT, right))) {
                    return right;
                }
            }
            return NOBODY;
        }

        /** The least left with whom an exposed turn begins. */
        private int firstLeader(int each) {
            for (int left = 0; left < each; left++) {
                if (comesBack(left, each)) {
                    return left;
                }
            }
            return NOBODY;
        }

        private boolean comesBack(int left, int each) {
            int follower = followers.get(left);
            for (int step = 1; step < each; step++) {
                if (follower == left || follower == NOBODY) {
                    return follower == left;
                }
                follower = followers.get(follower);
            }
            return follower == left;
        }

        private void keepPairs(int t, int leader) {
            int left = leader;
            for (int k = 0; k < MOST_EACH; k++) {
                lefts.set(t * MOST_EACH + k, left);
                rights.set(t * MOST_EACH + k, now.partner(LEFT, left));
                lengths.set(t, k + 1);
                left = followers.get(left);
                if (left == leader) {
                    return;
                }
            }
        }

        /** The pair behind a pair: its right is the next one of the left ahead. */
        private int following(int t, int k) {
            return k + 1 < length(t) ? k + 1 : 0;
        }

        /**
         * A turn is exposed once each of its lefts has come to the right of its pair, and each right whom it
         * passes over says no to it: so it needs the turns that brought this about, and all that those need.
         */
        private void keepNeeds(int t, Lists lists) {
            int bits = 0;
            for (int k = 0; k < length(t); k++) {
                int left = left(t, k);
                bits |= withNeeds(broughtBy.get(left));
                int until = lists.place(LEFT, left, right(t, following(t, k)));
                for (int place = lists.place(LEFT, left, right(t, k)) + 1; place < until; place++) {
                    bits |= withNeeds(passedBy.get(lists.who(LEFT, left, place) * MOST_EACH + left));
                }
            }
            needs.set(t, bits);
            depths.set(t, depthBehind(bits, t));
        }

        private int withNeeds(int t) {
            return t == NOBODY ? 0 : needs(t) | 1 << t;
        }

        private int depthBehind(int bits, int t) {
            int depth = 0;
            for (int a = 0; a < t; a++) {
                if ((bits >> a & 1) == 1) {
                    depth = Math.max(depth, depth(a) + 1);
                }
            }
            return depth;
        }

        private int weigh(int t, Lists lists) {
            int sum = 0;
            for (int k = 0; k < length(t); k++) {
                int left = left(t, k);
                int next = right(t, following(t, k));
                int follower = left(t, following(t, k));
                sum += lists.place(LEFT, left, right(t, k)) - lists.place(LEFT, left, next);
                sum += lists.place(RIGHT, next, follower) - lists.place(RIGHT, next, left);
            }
            return sum;
        }

        private void markPassed(int t, Lists lists) {
            for (int k = 0; k < length(t); k++) {
                int left = left(t, k);
                int next = right(t, following(t, k));
                int until = lists.place(RIGHT, next, left(t, following(t, k)));
                broughtBy.set(left, t);
                for (int place = lists.place(RIGHT, next, left) + 1; place < until; place++) {
                    passedBy.set(next * MOST_EACH + lists.who(RIGHT, next, place), t);
                }
            }
        }
    }

    /** All closed sets of turns, the least first, and the match that comes of each. */
    private static final class Matches {
        private final Row closed;
        private int total;
        private final Pairing first;
        private final Pairing loaded;

        Matches() {
            closed = new Row(MOST_MATCHES);
            total = 0;
            first = new Pairing();
            loaded = new Pairing();
        }

        int total() {
            return total;
        }

        boolean isMatch(int m) {
            return m >= 0 && m < total;
        }

        int bits(int m) {
            return closed.get(m);
        }

        int numberOf(int bits) {
            for (int m = 0; m < total; m++) {
                if (closed.get(m) == bits) {
                    return m;
                }
            }
            return NOT;
        }

        /** What a turn needs has lesser numbers: sets with it come behind all without it, in their order. */
        void find(Turns turns, Pairing best) {
            first.copyFrom(best);
            closed.set(0, 0);
            total = 1;
            for (int t = 0; t < turns.total(); t++) {
                int without = total;
                for (int m = 0; m < without; m++) {
                    if (turns.isReady(t, bits(m)) && total < MOST_MATCHES) {
                        closed.set(total, bits(m) | 1 << t);
                        total++;
                    }
                }
            }
        }

        /** Stays until the next one is loaded. */
        Pairing load(int m, Turns turns) {
            int bits = bits(m);
            loaded.copyFrom(first);
            for (int t = 0; t < turns.total(); t++) {
                if ((bits >> t & 1) == 1) {
                    turns.perform(t, loaded);
                }
            }
            return loaded;
        }
    }

    /** One image of n, lists and the match by hand. */
    private static final class Image {
        private final Lists lists;
        private final Pairing pairing;
        private boolean there;

        Image() {
            lists = new Lists();
            pairing = new Pairing();
            there = false;
        }

        boolean isThere() {
            return there;
        }

        void take(Lists fromLists, Pairing fromPairing) {
            lists.copyFrom(fromLists);
            pairing.copyFrom(fromPairing);
            there = true;
        }

        void layBack(Lists toLists, Pairing toPairing) {
            toLists.copyFrom(lists);
            toPairing.copyFrom(pairing);
        }
    }
}
