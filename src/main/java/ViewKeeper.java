import java.util.Arrays;

/**
 * Facts, and views that rules make of them. A set of pairs is held in one int, the pair (x, y) being bit 5x + y, so
 * that what a rule says of all its pairs at once is a few shifts and masks.
 */
public final class ViewKeeper {
    public static final int BAD = -1;
    public static final int FULL = -2;
    public static final int CYCLE = -3;

    private static final int THINGS = 5;
    private static final int PAIRS = 25;
    private static final int FIRST_ROW = 31;
    private static final int FIRST_COLUMN = 1 | 1 << 5 | 1 << 10 | 1 << 15 | 1 << 20;
    private static final int RELATIONS = 7;
    private static final int FIRST_VIEW = 2;
    private static final int MOST_RULES = 12;

    private static final int COPY = 0;
    private static final int TURN = 1;
    private static final int JOIN = 2;
    private static final int BOTH = 3;
    private static final int WITHOUT = 4;

    private static final int PUT_IN = 0;
    private static final int TAKEN_OUT = 1;
    private static final int SUSPECTS = 2;
    private static final int SAVED = 3;

    /** Every pass but the last adds a pair to one of five views, and each of these has at most 25. */
    private static final int MOST_PASSES = 126;

    private final RuleBook book;
    private final int[] now;
    private final int[] before;
    private final int[] suspects;
    /** The count of the pair with bit b in the view v is at 25v + b; a recursive view has none. */
    private final int[] counts;
    private final int[] stagedIn;
    private final int[] stagedOut;

    public ViewKeeper() {
        book = new RuleBook();
        now = new int[RELATIONS];
        before = new int[RELATIONS];
        suspects = new int[RELATIONS];
        counts = new int[RELATIONS * PAIRS];
        stagedIn = new int[FIRST_VIEW];
        stagedOut = new int[FIRST_VIEW];
    }

    public int rule(int head, int form, int p, int q) {
        if (!isView(head) || form < COPY || form > WITHOUT || !isRelation(p) || !isRelation(q)) {
            return BAD;
        }
        if (book.made >= MOST_RULES) {
            return FULL;
        }
        book.write(head, form, p, q);
        if (book.hasCycle()) {
            book.strikeLast();
            return CYCLE;
        }
        startFromNothing();
        bringUpToDate();
        forgetChanges();
        return book.made - 1;
    }

    public int undo() {
        if (book.made == 0) {
            return BAD;
        }
        book.strikeLast();
        startFromNothing();
        bringUpToDate();
        forgetChanges();
        return book.made;
    }

    public boolean stage(int relation, int x, int y, boolean in) {
        if (!isRelation(relation) || isView(relation) || !isThing(x) || !isThing(y)) {
            return false;
        }
        int pair = bit(x, y);
        stagedIn[relation] = in ? stagedIn[relation] | pair : stagedIn[relation] & ~pair;
        stagedOut[relation] = in ? stagedOut[relation] & ~pair : stagedOut[relation] | pair;
        return true;
    }

    public int commit() {
        forgetChanges();
        doStaged();
        bringUpToDate();
        int all = 0;
        for (int relation = 0; relation < RELATIONS; relation++) {
            all += Integer.bitCount(putInto(relation)) + Integer.bitCount(takenOutOf(relation));
        }
        return all;
    }

    public int abort() {
        int staged = 0;
        for (int relation = 0; relation < FIRST_VIEW; relation++) {
            staged += Integer.bitCount(stagedIn[relation]) + Integer.bitCount(stagedOut[relation]);
        }
        clearStaged();
        return staged;
    }

    public boolean has(int relation, int x, int y) {
        return isRelation(relation) && isThing(x) && isThing(y) && holds(now[relation], x, y);
    }

    public int count(int relation, int x, int y) {
        if (!isRelation(relation) || !isThing(x) || !isThing(y) || book.leadsBack(relation)) {
            return BAD;
        }
        if (isView(relation)) {
            return counts[PAIRS * relation + THINGS * x + y];
        }
        return holds(now[relation], x, y) ? 1 : 0;
    }

    public int size(int relation) {
        return isRelation(relation) ? Integer.bitCount(now[relation]) : BAD;
    }

    public boolean recursive(int relation) {
        return isRelation(relation) && book.leadsBack(relation);
    }

    public boolean needs(int view, int relation) {
        return isView(view) && isRelation(relation) && book.leadsTo(view, relation);
    }

    public int rules() {
        return book.made;
    }

    public int changed(int relation, int what) {
        if (!isRelation(relation)) {
            return BAD;
        }
        switch (what) {
            case PUT_IN:
                return Integer.bitCount(putInto(relation));
            case TAKEN_OUT:
                return Integer.bitCount(takenOutOf(relation));
            case SUSPECTS:
                return Integer.bitCount(suspects[relation]);
            case SAVED:
                return Integer.bitCount(suspects[relation] & now[relation]);
            default:
                return BAD;
        }
    }

    public boolean suspect(int relation, int x, int y) {
        return isRelation(relation) && isThing(x) && isThing(y) && holds(suspects[relation], x, y);
    }

    private static boolean isRelation(int relation) {
        return relation >= 0 && relation < RELATIONS;
    }

    private static boolean isView(int relation) {
        return relation >= FIRST_VIEW && relation < RELATIONS;
    }

    private static boolean isThing(int thing) {
        return thing >= 0 && thing < THINGS;
    }

    private static int bit(int x, int y) {
        return 1 << (THINGS * x + y);
    }

    private static boolean holds(int pairs, int x, int y) {
        return ((pairs >> (THINGS * x + y)) & 1) != 0;
    }

    private static int row(int pairs, int x) {
        return (pairs >> (THINGS * x)) & FIRST_ROW;
    }

    /** All (x, y) with (y, x) in the pairs. */
    private static int turned(int pairs) {
        int result = 0;
        for (int x = 0; x < THINGS; x++) {
            for (int y = 0; y < THINGS; y++) {
                if (holds(pairs, y, x)) {
                    result |= bit(x, y);
                }
            }
        }
        return result;
    }

    /** All (x, y) with some z such that (x, z) is in the left pairs and (z, y) in the right ones. */
    private static int joined(int left, int right) {
        int result = 0;
        for (int x = 0; x < THINGS; x++) {
            for (int z = 0; z < THINGS; z++) {
                if (holds(left, x, z)) {
                    result |= row(right, z) << (THINGS * x);
                }
            }
        }
        return result;
    }

    /**
     * After a change of the rules the old pairs of views say nothing of the new ones: it is as if there had been
     * nothing at all before, and all facts had been put in just now.
     */
    private void startFromNothing() {
        Arrays.fill(before, 0);
        Arrays.fill(suspects, 0);
        Arrays.fill(counts, 0);
        for (int view = FIRST_VIEW; view < RELATIONS; view++) {
            now[view] = 0;
        }
    }

    private void bringUpToDate() {
        for (int layer = 1; layer <= RELATIONS; layer++) {
            recount(layer);
            findSuspects(layer);
            takeOutSuspects(layer);
            fill(layer);
        }
    }

    private void forgetChanges() {
        System.arraycopy(now, 0, before, 0, RELATIONS);
        Arrays.fill(suspects, 0);
    }

    private void doStaged() {
        for (int relation = 0; relation < FIRST_VIEW; relation++) {
            now[relation] = (now[relation] | stagedIn[relation]) & ~stagedOut[relation];
        }
        clearStaged();
    }

    private void clearStaged() {
        Arrays.fill(stagedIn, 0);
        Arrays.fill(stagedOut, 0);
    }

    private int putInto(int relation) {
        return now[relation] & ~before[relation];
    }

    private int takenOutOf(int relation) {
        return before[relation] & ~now[relation];
    }

    /** A view that is not recursive leans on lower layers alone, so one look at each of its rules is enough. */
    private void recount(int layer) {
        for (int i = 0; i < book.made; i++) {
            Rule rule = book.rows[i];
            if (book.layerOf(rule.head) == layer && !book.leadsBack(rule.head)) {
                for (int way = 0; way < rule.ways(); way++) {
                    recountPairs(rule.head, rule.givenBy(way, before), rule.givenBy(way, now));
                }
            }
        }
    }

    /** One instance gave each of the old pairs before, and one gives each of the new pairs now. */
    private void recountPairs(int view, int oldPairs, int newPairs) {
        int differing = oldPairs ^ newPairs;
        for (int place = 0; place < PAIRS; place++) {
            int pair = 1 << place;
            if ((differing & pair) != 0) {
                int at = PAIRS * view + place;
                counts[at] += (newPairs & pair) != 0 ? 1 : -1;
                now[view] = counts[at] > 0 ? now[view] | pair : now[view] & ~pair;
            }
        }
    }

    /** Must run when the lower layers are up to date and this one is not yet touched. */
    private void findSuspects(int layer) {
        boolean more = true;
        for (int pass = 0; more && pass < MOST_PASSES; pass++) {
            more = suspectOnce(layer);
        }
    }

    private boolean suspectOnce(int layer) {
        boolean more = false;
        for (int i = 0; i < book.made; i++) {
            Rule rule = book.rows[i];
            if (book.layerOf(rule.head) == layer && book.leadsBack(rule.head)) {
                int found = suspectsBy(rule) & ~suspects[rule.head];
                suspects[rule.head] |= found;
                more = more || found != 0;
            }
        }
        return more;
    }

    /** What instances of the rule gave before, of those that lean on a pair which is gone or may be. */
    private int suspectsBy(Rule rule) {
        int p = before[rule.p];
        int q = before[rule.q];
        int lostP = lostFor(rule.head, rule.p);
        int lostQ = lostFor(rule.head, rule.q);
        switch (rule.form) {
            case COPY:
                return lostP;
            case TURN:
                return turned(lostP);
            case JOIN:
                return joined(lostP, q) | joined(p, lostQ);
            case BOTH:
                return (lostP & q) | (p & lostQ);
            default:
                return p & ~q & (lostP | putInto(rule.q));
        }
    }

    /** A relation that leads back to the view is not yet up to date: only its suspects can be told. */
    private int lostFor(int view, int relation) {
        return book.leadsTo(relation, view) ? suspects[relation] : takenOutOf(relation);
    }

    /** A pair that is no suspect keeps all its reasons, so filling may start from it. */
    private void takeOutSuspects(int layer) {
        for (int view = FIRST_VIEW; view < RELATIONS; view++) {
            if (book.layerOf(view) == layer) {
                now[view] &= ~suspects[view];
            }
        }
    }

    private void fill(int layer) {
        boolean more = true;
        for (int pass = 0; more && pass < MOST_PASSES; pass++) {
            more = fillOnce(layer);
        }
    }

    private boolean fillOnce(int layer) {
        boolean more = false;
        for (int i = 0; i < book.made; i++) {
            Rule rule = book.rows[i];
            if (book.layerOf(rule.head) == layer && book.leadsBack(rule.head)) {
                int found = rule.given(now) & ~now[rule.head];
                now[rule.head] |= found;
                more = more || found != 0;
            }
        }
        return more;
    }

    /** One rule; the rows are made once and written anew, so that no call makes an object. */
    private static final class Rule {
        private int head;
        private int form;
        private int p;
        private int q;

        /** The relations that the rule looks at, relation r being bit r. */
        private int body() {
            return form == COPY || form == TURN ? 1 << p : (1 << p) | (1 << q);
        }

        /** The pairs that instances of the rule give in a state. */
        private int given(int[] state) {
            switch (form) {
                case COPY:
                    return state[p];
                case TURN:
                    return turned(state[p]);
                case JOIN:
                    return joined(state[p], state[q]);
                case BOTH:
                    return state[p] & state[q];
                default:
                    return state[p] & ~state[q];
            }
        }

        /** How many instances of the rule may give the same pair: for form 2 one for each z. */
        private int ways() {
            return form == JOIN ? THINGS : 1;
        }

        /** The pairs that instances of the rule give in a state; for form 2 those alone whose z is the way. */
        private int givenBy(int way, int[] state) {
            return form == JOIN ? joined(state[p] & (FIRST_COLUMN << way), state[q]) : given(state);
        }
    }

    /** The rules in the order in which they were made, and which relations each relation needs by them. */
    private static final class RuleBook {
        private final Rule[] rows;
        private final int[] needed;
        private int made;

        private RuleBook() {
            rows = new Rule[MOST_RULES];
            for (int i = 0; i < MOST_RULES; i++) {
                rows[i] = new Rule();
            }
            needed = new int[RELATIONS];
            made = 0;
        }

        private void write(int head, int form, int p, int q) {
            Rule rule = rows[made];
            rule.head = head;
            rule.form = form;
            rule.p = p;
            rule.q = q;
            made++;
            findNeeded();
        }

        private void strikeLast() {
            made--;
            findNeeded();
        }

        private void findNeeded() {
            Arrays.fill(needed, 0);
            for (int i = 0; i < made; i++) {
                needed[rows[i].head] |= rows[i].body();
            }
            // Ways through one more view at a time: with the middle outermost, one round is enough.
            for (int middle = FIRST_VIEW; middle < RELATIONS; middle++) {
                for (int view = FIRST_VIEW; view < RELATIONS; view++) {
                    if (leadsTo(view, middle)) {
                        needed[view] |= needed[middle];
                    }
                }
            }
        }

        private boolean leadsTo(int from, int to) {
            return (needed[from] & (1 << to)) != 0;
        }

        private boolean leadsBack(int relation) {
            return leadsTo(relation, relation);
        }

        private boolean hasCycle() {
            for (int i = 0; i < made; i++) {
                Rule rule = rows[i];
                if (rule.form == WITHOUT && (rule.q == rule.head || leadsTo(rule.q, rule.head))) {
                    return true;
                }
            }
            return false;
        }

        /**
         * How many relations the view and all that it needs are. A needed relation has no more than the view; it has
         * as many only if it needs the view, too. So layers from low to high are an order to bring views up to date.
         */
        private int layerOf(int view) {
            return Integer.bitCount(needed[view] | (1 << view));
        }
    }
}
