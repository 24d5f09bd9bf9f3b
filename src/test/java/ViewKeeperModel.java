import java.util.ArrayList;
import java.util.HashSet;
import java.util.List;
import java.util.Set;
import java.util.TreeSet;

/**
 * Long runs of made-up calls, each answer held against a second program that follows the document's words one by one:
 * it lists instances, knows no layers and no bit masks, and makes all views anew after every change.
 */
public final class ViewKeeperModel {
    private static final int RUNS = 1500;
    private static final int CALLS = 512;
    private static final int MOST_CALLS_A_STEP = 29;

    private static long seed;
    private static int wrong = 0;

    private static final int[] seenAnswers = new int[13];
    private static int cycles = 0;
    private static int savedSeen = 0;
    private static int lostSeen = 0;
    private static int suspectByPutIn = 0;

    /** The same numbers in every run of the test. */
    private static int pick(int bound) {
        seed = seed * 6364136223846793005L + 1442695040888963407L;
        return (int) ((seed >>> 33) % bound);
    }

    private static boolean chance(int percent) {
        return pick(100) < percent;
    }

    record Pair(int relation, int x, int y) { }

    record Made(int head, int form, int p, int q) {
        boolean looksAtQ() {
            return form >= 2;
        }
    }

    /** What an instance leans on: pairs that are in, and for form 4 a pair that is not. */
    record Instance(Pair gives, List<Pair> leansOn, Pair absent) { }

    static final class Model {
        final List<Made> rules = new ArrayList<>();
        final Set<Pair> facts = new HashSet<>();
        final Set<Pair> stagedIn = new HashSet<>();
        final Set<Pair> stagedOut = new HashSet<>();
        Set<Pair> state = new HashSet<>();
        Set<Pair> old = new HashSet<>();
        Set<Pair> suspects = new HashSet<>();

        static boolean relation(int r) { return r >= 0 && r <= 6; }
        static boolean view(int r) { return r >= 2 && r <= 6; }
        static boolean thing(int t) { return t >= 0 && t <= 4; }

        Set<Integer> needed(int view) {
            Set<Integer> found = new TreeSet<>();
            List<Integer> open = new ArrayList<>(List.of(view));
            while (!open.isEmpty()) {
                int at = open.remove(open.size() - 1);
                for (Made rule : rules) {
                    if (rule.head() != at) continue;
                    if (found.add(rule.p())) open.add(rule.p());
                    if (rule.looksAtQ() && found.add(rule.q())) open.add(rule.q());
                }
            }
            return found;
        }

        boolean needs(int view, int relation) {
            return view(view) && relation(relation) && needed(view).contains(relation);
        }

        List<Instance> instances(Made rule, Set<Pair> in) {
            List<Instance> found = new ArrayList<>();
            for (int x = 0; x < 5; x++) {
                for (int y = 0; y < 5; y++) {
                    Pair gives = new Pair(rule.head(), x, y);
                    Pair inP = new Pair(rule.p(), x, y);
                    Pair inQ = new Pair(rule.q(), x, y);
                    Pair turned = new Pair(rule.p(), y, x);
                    if (rule.form() == 0 && in.contains(inP)) found.add(new Instance(gives, List.of(inP), null));
                    if (rule.form() == 1 && in.contains(turned)) found.add(new Instance(gives, List.of(turned), null));
                    if (rule.form() == 3 && in.contains(inP) && in.contains(inQ)) found.add(new Instance(gives, List.of(inP, inQ), null));
                    if (rule.form() == 4 && in.contains(inP) && !in.contains(inQ)) found.add(new Instance(gives, List.of(inP), inQ));
                    for (int z = 0; z < 5 && rule.form() == 2; z++) {
                        Pair left = new Pair(rule.p(), x, z);
                        Pair right = new Pair(rule.q(), z, y);
                        if (in.contains(left) && in.contains(right)) found.add(new Instance(gives, List.of(left, right), null));
                    }
                }
            }
            return found;
        }

        Set<Pair> views() {
            Set<Pair> in = new HashSet<>(facts);
            Set<Integer> ready = new TreeSet<>();
            for (int view = 2; view <= 6; view++) solve(view, in, ready);
            return in;
        }

        void solve(int view, Set<Pair> in, Set<Integer> ready) {
            if (!view(view) || ready.contains(view)) return;
            Set<Integer> together = new TreeSet<>(List.of(view));
            for (int other : needed(view)) {
                if (needs(other, view)) together.add(other);
            }
            for (int other : needed(view)) {
                if (!together.contains(other)) solve(other, in, ready);
            }
            boolean more = true;
            while (more) {
                Set<Pair> next = new HashSet<>();
                for (Made rule : rules) {
                    if (together.contains(rule.head())) {
                        for (Instance instance : instances(rule, in)) next.add(instance.gives());
                    }
                }
                more = in.addAll(next);
            }
            ready.addAll(together);
        }

        void findSuspects() {
            suspects = new HashSet<>();
            boolean more = true;
            while (more) {
                more = false;
                for (Made rule : rules) {
                    if (!needs(rule.head(), rule.head())) continue;
                    for (Instance instance : instances(rule, old)) {
                        if (shaken(rule, instance)) more |= suspects.add(instance.gives());
                    }
                }
            }
        }

        boolean shaken(Made rule, Instance instance) {
            for (Pair pair : instance.leansOn()) {
                boolean leadsBack = needs(pair.relation(), rule.head());
                if (!leadsBack && old.contains(pair) && !state.contains(pair)) return true;
                if (leadsBack && suspects.contains(pair)) return true;
            }
            Pair absent = instance.absent();
            if (absent != null && !old.contains(absent) && state.contains(absent)) {
                suspectByPutIn++;
                return true;
            }
            return false;
        }

        void remake() {
            state = views();
            old = state;
            suspects = new HashSet<>();
        }

        int rule(int head, int form, int p, int q) {
            if (!view(head) || form < 0 || form > 4 || !relation(p) || !relation(q)) return -1;
            if (rules.size() == 12) return -2;
            rules.add(new Made(head, form, p, q));
            for (Made rule : rules) {
                if (rule.form() == 4 && (rule.q() == rule.head() || needs(rule.q(), rule.head()))) {
                    rules.remove(rules.size() - 1);
                    return -3;
                }
            }
            remake();
            return rules.size() - 1;
        }

        int undo() {
            if (rules.isEmpty()) return -1;
            rules.remove(rules.size() - 1);
            remake();
            return rules.size();
        }

        int stage(int relation, int x, int y, boolean in) {
            if (!relation(relation) || view(relation) || !thing(x) || !thing(y)) return 0;
            Pair pair = new Pair(relation, x, y);
            (in ? stagedOut : stagedIn).remove(pair);
            (in ? stagedIn : stagedOut).add(pair);
            return 1;
        }

        int commit() {
            old = state;
            facts.addAll(stagedIn);
            facts.removeAll(stagedOut);
            abort();
            state = views();
            findSuspects();
            int all = 0;
            for (int relation = 0; relation < 7; relation++) all += changed(relation, 0) + changed(relation, 1);
            return all;
        }

        int abort() {
            int all = stagedIn.size() + stagedOut.size();
            stagedIn.clear();
            stagedOut.clear();
            return all;
        }

        int count(int relation, int x, int y) {
            if (!relation(relation) || !thing(x) || !thing(y) || needs(relation, relation)) return -1;
            Pair pair = new Pair(relation, x, y);
            if (!view(relation)) return facts.contains(pair) ? 1 : 0;
            int all = 0;
            for (Made rule : rules) {
                for (Instance instance : instances(rule, state)) {
                    if (instance.gives().equals(pair)) all++;
                }
            }
            return all;
        }

        int size(int relation) {
            return relation(relation) ? (int) state.stream().filter(pair -> pair.relation() == relation).count() : -1;
        }

        int changed(int relation, int what) {
            if (!relation(relation) || what < 0 || what > 3) return -1;
            int all = 0;
            for (int x = 0; x < 5; x++) {
                for (int y = 0; y < 5; y++) {
                    Pair pair = new Pair(relation, x, y);
                    boolean was = old.contains(pair);
                    boolean is = state.contains(pair);
                    boolean suspect = suspects.contains(pair);
                    if (what == 0 ? is && !was : what == 1 ? was && !is : what == 2 ? suspect : suspect && is) all++;
                }
            }
            return all;
        }
    }

    /** Mostly from low to high - 1, now and then beside it or far off. */
    private static int around(int low, int high) {
        if (chance(97)) return low + pick(high - low);
        int[] off = {low - 1, high, -1, 7, 32, Integer.MIN_VALUE, Integer.MAX_VALUE, low - 32, high + 32};
        return off[pick(off.length)];
    }

    private static int asInt(boolean b) {
        return b ? 1 : 0;
    }

    private static final class Run {
        final int number;
        final int ruleShare;
        final int factBound;
        final ViewKeeper keeper = new ViewKeeper();
        final Model model = new Model();
        final List<String> told = new ArrayList<>();

        Run(int number) {
            this.number = number;
            this.ruleShare = 2 + pick(12);
            this.factBound = chance(50) ? 3 : 5;
        }

        void due(int kind, String call, int got, int want) {
            seenAnswers[kind]++;
            told.add(call + " -> " + got);
            if (got != want) {
                wrong++;
                System.out.println("run " + number + ": " + told + " due is " + want);
            }
        }

        void play() {
            while (told.size() + MOST_CALLS_A_STEP <= CALLS && wrong == 0) step();
        }

        void step() {
            int choice = pick(100);
            if (choice < ruleShare) makeRule();
            else if (choice < ruleShare + 2) due(1, "undo()", keeper.undo(), model.undo());
            else if (choice < 45) stageFact();
            else if (choice < 60) commitAndLook();
            else if (choice < 62) due(4, "abort()", keeper.abort(), model.abort());
            else look();
        }

        void makeRule() {
            int head = around(2, 7);
            int form = around(0, 5);
            int p = around(0, 7);
            int q = around(0, 7);
            int want = model.rule(head, form, p, q);
            if (want == -3) cycles++;
            due(0, "rule(" + head + ", " + form + ", " + p + ", " + q + ")", keeper.rule(head, form, p, q), want);
        }

        void stageFact() {
            int relation = around(0, 2);
            int x = around(0, factBound);
            int y = around(0, factBound);
            boolean in = chance(55);
            due(2, "stage(" + relation + ", " + x + ", " + y + ", " + in + ")", asInt(keeper.stage(relation, x, y, in)), model.stage(relation, x, y, in));
        }

        void commitAndLook() {
            due(3, "commit()", keeper.commit(), model.commit());
            boolean lookAtAll = chance(25);
            for (int relation = 0; relation < 7; relation++) {
                for (int what = 0; what < 4 && lookAtAll; what++) checkChanged(relation, what);
                if (model.changed(relation, 3) > 0) savedSeen++;
                if (model.changed(relation, 2) > model.changed(relation, 3)) lostSeen++;
            }
        }

        void checkChanged(int relation, int what) {
            due(11, "changed(" + relation + ", " + what + ")", keeper.changed(relation, what), model.changed(relation, what));
        }

        void look() {
            int relation = around(0, 7);
            int x = around(0, 5);
            int y = around(0, 5);
            String pair = "(" + relation + ", " + x + ", " + y + ")";
            switch (pick(8)) {
                case 0 -> due(5, "has" + pair, asInt(keeper.has(relation, x, y)), asInt(model.state.contains(new Pair(relation, x, y))));
                case 1 -> due(6, "count" + pair, keeper.count(relation, x, y), model.count(relation, x, y));
                case 2 -> due(7, "size(" + relation + ")", keeper.size(relation), model.size(relation));
                case 3 -> due(8, "recursive(" + relation + ")", asInt(keeper.recursive(relation)), asInt(model.needs(relation, relation)));
                case 4 -> due(9, "needs(" + relation + ", " + x + ")", asInt(keeper.needs(relation, x)), asInt(model.needs(relation, x)));
                case 5 -> due(10, "rules()", keeper.rules(), model.rules.size());
                case 6 -> checkChanged(relation, around(0, 4));
                default -> due(12, "suspect" + pair, asInt(keeper.suspect(relation, x, y)), asInt(model.suspects.contains(new Pair(relation, x, y))));
            }
        }
    }

    private static void mustHaveSeen(String what, int times) {
        if (times < 100) {
            wrong++;
            System.out.println("only " + times + " times seen: " + what);
        }
    }

    public static void main(String[] args) {
        seed = 20261115L;
        for (int run = 1; run <= RUNS && wrong == 0; run++) new Run(run).play();
        if (wrong == 0) {
            for (int kind = 0; kind < seenAnswers.length; kind++) mustHaveSeen("calls of kind " + kind, seenAnswers[kind]);
            mustHaveSeen("a rule refused with CYCLE", cycles);
            mustHaveSeen("a view with saved pairs", savedSeen);
            mustHaveSeen("a view with suspects that were lost", lostSeen);
            mustHaveSeen("a suspect because of a pair put into q", suspectByPutIn);
        }
        System.out.println(wrong == 0 ? "all answers are as due" : wrong + " answers are not as due");
        if (wrong != 0) System.exit(1);
    }
}
