import java.util.ArrayList;
import java.util.List;
import java.util.function.Consumer;
import java.util.function.ToIntFunction;

/**
 * The document's boundary cases, a test for each sentence that names one; the sentence stands over its test. No object
 * here gets more than the 512 calls that the document speaks of.
 */
public final class ViewKeeperEdges {
    private static final int BAD = -1;
    private static final int FULL = -2;
    private static final int CYCLE = -3;

    private static final int MOST_CALLS = 512;
    private static final int CALLS_BEFORE_A_NEW_OBJECT = 400;

    /**
     * All that exists, what lies beside it, and numbers that would become existing ones if a shift, a product with 5
     * or a cast to fewer bits were done before they are looked at (5 * -858993459 is 1).
     */
    private static final int[] NUMBERS = {
        -1, 0, 1, 2, 3, 4, 5, 6, 7, -2, -5, -25, 8, 24, 25, 31, 32, 33, -32, 64, 256, 65536, 1 << 30, -858993459,
        858993459, 1717986918, Integer.MIN_VALUE, Integer.MIN_VALUE + 1, Integer.MAX_VALUE, Integer.MAX_VALUE - 1};

    /** How a rule may look at a relation: each form by p, and forms 2 to 4 by q, too. */
    private static final int[][] LOOKS = {{0, 0}, {1, 0}, {2, 0}, {3, 0}, {4, 0}, {2, 1}, {3, 1}, {4, 1}};

    private static int wrong = 0;
    private static int asked = 0;

    private static void due(String what, int got, int want) {
        asked++;
        if (got != want) {
            wrong++;
            System.out.println(what + ": answered " + got + ", due is " + want);
        }
    }

    private static void due(String what, boolean got, boolean want) {
        due(what, got ? 1 : 0, want ? 1 : 0);
    }

    private static boolean isThing(int n) {
        return n >= 0 && n <= 4;
    }

    private static boolean isRelation(int n) {
        return n >= 0 && n <= 6;
    }

    private static boolean isView(int n) {
        return n >= 2 && n <= 6;
    }

    // ---- objects to begin with

    private static ViewKeeper made(Consumer<ViewKeeper> story) {
        ViewKeeper k = new ViewKeeper();
        story.accept(k);
        return k;
    }

    private static void stageAllOf(ViewKeeper k, int relation, boolean in) {
        for (int i = 0; i < 25; i++) k.stage(relation, i / 5, i % 5, in);
    }

    private static void nothing(ViewKeeper k) {
    }

    /** No commit yet, no rule. */
    private static void onlyStaged(ViewKeeper k) {
        k.stage(0, 0, 1, true);
        k.stage(1, 4, 4, false);
    }

    /** View 2 has lost, has new and has saved pairs; view 3 is not recursive; something is staged. */
    private static void ways(ViewKeeper k) {
        k.rule(2, 0, 0, 0);
        k.rule(2, 2, 0, 2);
        k.rule(3, 4, 2, 1);
        k.stage(0, 0, 1, true);
        k.stage(0, 1, 2, true);
        k.stage(0, 2, 3, true);
        k.commit();
        k.stage(0, 1, 2, false);
        k.stage(0, 0, 3, true);
        k.stage(0, 3, 4, true);
        k.commit();
        k.stage(0, 0, 1, false);
        k.stage(1, 0, 3, true);
    }

    /** As many rules as there may be. */
    private static void twelve(ViewKeeper k) {
        ways(k);
        for (int i = 3; i < 12; i++) k.rule(4 + i % 3, i % 4, 2 + i % 2, i % 2);
        k.stage(0, 2, 3, false);
        k.commit();
        k.stage(0, 2, 3, true);
        k.stage(1, 2, 4, true);
    }

    /** All rules are taken away again; the latest commit has changed facts; something is staged. */
    private static void emptied(ViewKeeper k) {
        ways(k);
        for (int i = 0; i < 3; i++) k.undo();
        k.commit();
        k.stage(0, 2, 2, true);
    }

    /** An older rule of form 4, which a rule for its q could make fall. */
    private static void without(ViewKeeper k) {
        k.rule(4, 4, 0, 3);
        k.rule(3, 0, 3, 0);
        k.rule(3, 0, 1, 0);
        k.stage(0, 1, 1, true);
        k.stage(0, 2, 2, true);
        k.stage(1, 2, 2, true);
        k.commit();
        k.stage(1, 1, 1, true);
    }

    /**
     * Relation 0 and all views have every pair, every pair of a view is a suspect and saved; relation 1 is empty. It
     * takes 84 calls.
     */
    private static void allSuspects(ViewKeeper k) {
        k.rule(2, 0, 0, 0);
        k.rule(2, 0, 1, 0);
        for (int view = 3; view <= 6; view++) k.rule(view, 0, view - 1, 0);
        k.rule(2, 0, 6, 0);
        stageAllOf(k, 0, true);
        stageAllOf(k, 1, true);
        k.commit();
        stageAllOf(k, 1, false);
        k.commit();
    }

    /** Every relation has every pair, just once, and no view is recursive. */
    private static void allOnce(ViewKeeper k) {
        for (int view = 2; view <= 6; view++) k.rule(view, 0, view % 2, 0);
        stageAllOf(k, 0, true);
        stageAllOf(k, 1, true);
        k.commit();
    }

    // ---- two objects that must not differ

    /** All that can be asked about a relation. */
    private static String told(ViewKeeper k, int relation) {
        StringBuilder told = new StringBuilder();
        for (int i = 0; i < 25; i++) {
            told.append(k.has(relation, i / 5, i % 5) ? 'h' : '-');
            told.append(k.suspect(relation, i / 5, i % 5) ? 's' : '-');
            told.append(k.count(relation, i / 5, i % 5)).append(' ');
        }
        for (int other = 0; other < 7; other++) told.append(k.needs(relation, other) ? 'n' : '-');
        for (int what = 0; what < 4; what++) told.append(' ').append(k.changed(relation, what));
        told.append(' ').append(k.size(relation)).append(k.recursive(relation) ? 'r' : '-').append(k.rules());
        return told.toString();
    }

    /** The same story with and without the call: no later call may tell which it was. */
    private static void changesNothing(String what, Consumer<ViewKeeper> story, Consumer<ViewKeeper> call) {
        List<ToIntFunction<ViewKeeper>> next = List.of(
            k -> 0, ViewKeeper::commit, ViewKeeper::abort, ViewKeeper::undo, k -> k.rule(6, 2, 0, 1));
        for (int i = 0; i < next.size(); i++) {
            for (int relation = 0; relation < 7; relation++) {
                ViewKeeper without = made(story);
                ViewKeeper with = made(story);
                call.accept(with);
                String name = what + ", then " + i + ", relation " + relation;
                due(name, next.get(i).applyAsInt(with), next.get(i).applyAsInt(without));
                due(name + " tells the same", told(with, relation).equals(told(without, relation)), true);
                due(name + " commits the same", with.commit(), without.commit());
                due(name + " then tells the same", told(with, relation).equals(told(without, relation)), true);
            }
        }
    }

    private static void isRefused(String what, Consumer<ViewKeeper> story, ToIntFunction<ViewKeeper> call, int answer) {
        due(what, call.applyAsInt(made(story)), answer);
        changesNothing(what, story, call::applyAsInt);
    }

    // ---- one object after the other, each for so many calls

    private static final class Supply {
        private final Consumer<ViewKeeper> story;
        private ViewKeeper at;
        private int calls = CALLS_BEFORE_A_NEW_OBJECT;

        Supply(Consumer<ViewKeeper> story) {
            this.story = story;
        }

        ViewKeeper next() {
            if (calls >= CALLS_BEFORE_A_NEW_OBJECT) {
                at = made(story);
                calls = 0;
            }
            calls++;
            return at;
        }
    }

    // ---- What it is

    /** "An object is used for at most 512 calls after it has been made": the last of these is as good as the first. */
    private static void theLastOf512Calls() {
        ViewKeeper rules = new ViewKeeper();
        for (int call = 1; call <= MOST_CALLS; call += 2) {
            due("call " + call + ": rule", rules.rule(2 + call % 5, call % 5, 1, call % 2), 0);
            due("call " + (call + 1) + ": undo", rules.undo(), 0);
        }
        ViewKeeper staged = new ViewKeeper();
        for (int call = 1; call < MOST_CALLS; call++) due("call " + call, staged.stage(0, 4, 4, call % 2 == 1), true);
        due("call 512: commit", staged.commit(), 1);
        ViewKeeper aborted = new ViewKeeper();
        for (int call = 1; call <= MOST_CALLS; call += 2) {
            due("call " + call, aborted.stage(1, call % 5, 0, call % 3 == 0), true);
            due("call " + (call + 1) + ": abort", aborted.abort(), 1);
        }
        ViewKeeper refused = new ViewKeeper();
        for (int call = 1; call < MOST_CALLS; call++) due("call " + call, refused.rule(2, 4, 0, 2), CYCLE);
        due("call 512: rule", refused.rule(2, 4, 0, 1), 0);
    }

    /** The same, with a commit in every other call. */
    private static void theLastOf512CallsWithCommits() {
        ViewKeeper k = new ViewKeeper();
        k.rule(2, 0, 0, 0);
        k.rule(2, 2, 2, 2);
        k.stage(0, 0, 1, true);
        due("call 4: commit", k.commit(), 2);
        for (int call = 5; call < MOST_CALLS; call += 2) {
            boolean in = call % 4 == 1;
            due("call " + call, k.stage(0, 1, 0, in), true);
            due("call " + (call + 1) + ": commit", k.commit(), 4);
        }
        ViewKeeper asks = made(ViewKeeperEdges::allSuspects);
        for (int call = 85; call < MOST_CALLS; call++) due("call " + call, asks.suspect(6, 4, 4), true);
        due("call 512", asks.changed(6, 3), 25);
    }

    // ---- Terms

    /** "THINGS are 0 .. 4. RELATIONS are 0 .. 6": each of them is there, at its own place. */
    private static void eachPairHasItsPlace() {
        for (int i = 0; i < 50; i++) {
            ViewKeeper k = new ViewKeeper();
            int relation = i / 25;
            due("rule", k.rule(2, 0, relation, 0), 0);
            due("rule", k.rule(6, 1, relation, 0), 1);
            due("stage", k.stage(relation, i / 5 % 5, i % 5, true), true);
            due("one fact and two pairs", k.commit(), 3);
            for (int j = 0; j < 25; j++) {
                boolean same = j == i % 25;
                boolean turned = j == i % 5 * 5 + i / 5 % 5;
                due("the fact", k.has(relation, j / 5, j % 5), same);
                due("no other fact", k.has(1 - relation, j / 5, j % 5), false);
                due("the pair", k.has(2, j / 5, j % 5), same);
                due("the turned pair", k.has(6, j / 5, j % 5), turned);
                due("no pair without a rule", k.has(3, j / 5, j % 5), false);
            }
        }
    }

    /** "Forms 0 and 1 do not look at q." */
    private static void formsThatDoNotLookAtQ() {
        for (int form = 0; form <= 1; form++) {
            for (int q = 0; q < 7; q++) {
                ViewKeeper k = new ViewKeeper();
                due("rule", k.rule(3, form, 0, q), 0);
                due("not recursive by q", k.recursive(3), false);
                for (int other = 0; other < 7; other++) due("needs p alone", k.needs(3, other), other == 0);
                due("a form 4 whose q is the head", k.rule(q < 2 || q == 3 ? 2 : q, 4, 0, 3), 1);
                due("and another one", k.rule(3, form, 0, q), 2);
                stageAllOf(k, 0, true);
                due("25 in 0 and in 3", k.commit(), 50);
                due("an instance for each rule", k.count(3, 4, 0), 2);
            }
        }
    }

    /** "No rule of form 4 may stand whose head is needed by its q, or is its q." */
    private static void formFourAndItsQ() {
        for (int head = 2; head <= 6; head++) {
            for (int q = 0; q < 7; q++) {
                ViewKeeper k = new ViewKeeper();
                due("alone, head " + head + ", q " + q, k.rule(head, 4, 0, q), q == head ? CYCLE : 0);
                due("its p may be its head", new ViewKeeper().rule(head, 4, head, q), q == head ? CYCLE : 0);
                if (isView(q) && q != head) {
                    due("q by the head", k.rule(q, 0, head, 0), CYCLE);
                    due("q by itself", k.rule(q, 0, q, 0), 1);
                    due("head by itself", k.rule(head, 3, head, head), 2);
                    due("head by q", k.rule(head, 2, q, q), 3);
                }
            }
        }
    }

    /** "The views are .. the least sets": pairs that only hold one another are not in. */
    private static void viewsWithoutAnyReason() {
        ViewKeeper k = new ViewKeeper();
        for (int view = 2; view <= 6; view++) k.rule(view, view % 4, 2 + (view - 1) % 5, 2 + (view - 1) % 5);
        stageAllOf(k, 0, true);
        due("facts alone", k.commit(), 25);
        for (int view = 2; view <= 6; view++) {
            due("recursive", k.recursive(view), true);
            due("and empty", k.size(view), 0);
        }
    }

    /** "Of several refusals that fit the one named first is answered." */
    private static void theFirstRefusal() {
        Supply fresh = new Supply(ViewKeeperEdges::nothing);
        Supply full = new Supply(ViewKeeperEdges::twelve);
        due("CYCLE alone", fresh.next().rule(3, 4, 0, 3), CYCLE);
        due("FULL alone", full.next().rule(6, 0, 0, 0), FULL);
        due("FULL and CYCLE", full.next().rule(3, 4, 0, 3), FULL);
        int[] none = {-1, 7, 8, Integer.MIN_VALUE, Integer.MAX_VALUE};
        for (int no : none) {
            due("BAD p and CYCLE", fresh.next().rule(3, 4, no, 3), BAD);
            due("BAD head and FULL", full.next().rule(no, 0, 0, 0), BAD);
            due("BAD form and FULL", full.next().rule(2, no, 0, 0), BAD);
            due("BAD p and FULL", full.next().rule(2, 0, no, 0), BAD);
            due("BAD q and FULL", full.next().rule(2, 0, 0, no), BAD);
            due("all three", full.next().rule(3, 4, no, 3), BAD);
        }
        due("head is no view, but its own q", fresh.next().rule(1, 4, 0, 1), BAD);
        due("so, and FULL", full.next().rule(1, 4, 0, 1), BAD);
    }

    /** "A refused call changes nothing": each kind of refusal, in each kind of state. */
    private static void refusedCallsChangeNothing() {
        List<Consumer<ViewKeeper>> stories = List.of(ViewKeeperEdges::nothing, ViewKeeperEdges::onlyStaged,
            ViewKeeperEdges::ways, ViewKeeperEdges::twelve, ViewKeeperEdges::emptied);
        for (int i = 0; i < stories.size(); i++) {
            Consumer<ViewKeeper> story = stories.get(i);
            String at = " in state " + i;
            isRefused("head 1" + at, story, k -> k.rule(1, 0, 0, 0), BAD);
            isRefused("form 5" + at, story, k -> k.rule(2, 5, 0, 0), BAD);
            isRefused("p 7" + at, story, k -> k.rule(2, 0, 7, 0), BAD);
            isRefused("q -1" + at, story, k -> k.rule(2, 1, 0, -1), BAD);
            isRefused("cycle" + at, story, k -> k.rule(6, 4, 0, 6), story == stories.get(3) ? FULL : CYCLE);
            isRefused("stage a view" + at, story, k -> k.stage(2, 0, 1, true) ? 1 : 0, 0);
            isRefused("stage no relation" + at, story, k -> k.stage(-1, 0, 1, false) ? 1 : 0, 0);
            isRefused("stage no x" + at, story, k -> k.stage(0, 5, 0, true) ? 1 : 0, 0);
            isRefused("stage no y" + at, story, k -> k.stage(1, 4, 5, true) ? 1 : 0, 0);
            isRefused("stage out, no y" + at, story, k -> k.stage(0, 0, 5, false) ? 1 : 0, 0);
        }
        isRefused("full", ViewKeeperEdges::twelve, k -> k.rule(2, 0, 1, 0), FULL);
        isRefused("a cycle by an older rule", ViewKeeperEdges::without, k -> k.rule(3, 0, 4, 0), CYCLE);
        isRefused("undo in a new object", ViewKeeperEdges::nothing, ViewKeeper::undo, BAD);
        isRefused("undo without rules", ViewKeeperEdges::onlyStaged, ViewKeeper::undo, BAD);
        isRefused("undo when all are undone", ViewKeeperEdges::emptied, ViewKeeper::undo, BAD);
    }

    // ---- Promise 1: A new object

    /** "No facts, no rules, nothing staged." */
    private static void aNewObjectIsEmpty() {
        for (int relation = 0; relation < 7; relation++) {
            String empty = "--0 ".repeat(25) + "------- 0 0 0 0 0-0";
            due("nothing in relation " + relation, told(new ViewKeeper(), relation).equals(empty), true);
        }
        due("no rule to undo", new ViewKeeper().undo(), BAD);
        due("nothing staged", new ViewKeeper().abort(), 0);
        due("nothing to commit", new ViewKeeper().commit(), 0);
        made(ViewKeeperEdges::twelve);
        due("no rule of another object", new ViewKeeper().rules(), 0);
        due("no fact of another object", new ViewKeeper().size(0), 0);
        due("nothing that another object has staged", new ViewKeeper().abort(), 0);
    }

    // ---- Promise 2: rule

    /** "BAD: head is not 2 .. 6, form not 0 .. 4, or p or q not 0 .. 6 (q for forms 0 and 1, too)." */
    private static void ruleBad() {
        Supply full = new Supply(ViewKeeperEdges::twelve);
        for (int head : NUMBERS) {
            for (int form : NUMBERS) {
                for (int other : NUMBERS) {
                    boolean good = isView(head) && form >= 0 && form <= 4;
                    boolean bothGood = good && isRelation(other);
                    String call = "head " + head + ", form " + form + ", other " + other;
                    int cycle = form == 4 && other == head ? CYCLE : 0;
                    due(call + " as p", new ViewKeeper().rule(head, form, other, 1), bothGood ? 0 : BAD);
                    due(call + " as q", new ViewKeeper().rule(head, form, 1, other), bothGood ? cycle : BAD);
                    due(call + " as p, full", full.next().rule(head, form, other, 1), bothGood ? FULL : BAD);
                    due(call + " as q, full", full.next().rule(head, form, 1, other), bothGood ? FULL : BAD);
                }
            }
        }
        for (int form = 0; form <= 4; form++) {
            for (int p : NUMBERS) {
                for (int q : NUMBERS) {
                    boolean good = isRelation(p) && isRelation(q);
                    int due = !good ? BAD : form == 4 && q == 6 ? CYCLE : 0;
                    due("form " + form + ", p " + p + ", q " + q, new ViewKeeper().rule(6, form, p, q), due);
                }
            }
        }
    }

    /** "FULL: 12 are there": not with 11, and not any more after an undo. */
    private static void ruleFull() {
        for (int head = 2; head <= 6; head++) {
            ViewKeeper k = new ViewKeeper();
            for (int i = 0; i < 12; i++) due("rule " + i, k.rule(head, i % 5, i % 2, 1 - i % 2), i);
            due("the thirteenth", k.rule(head, 0, 0, 0), FULL);
            due("and again", k.rule(8 - head, 4, 1, 0), FULL);
            due("the twelfth is undone", k.undo(), 11);
            due("a twelfth", k.rule(8 - head, 2, 0, 0), 11);
            due("the thirteenth", k.rule(head, 0, 0, 0), FULL);
            for (int i = 11; i >= 0; i--) due("undo", k.undo(), i);
            due("from the first", k.rule(head, 0, 0, 0), 0);
        }
    }

    /** The greatest numbers that twelve rules can lead to. */
    private static void twelveRulesOverAllFacts() {
        ViewKeeper k = new ViewKeeper();
        stageAllOf(k, 0, true);
        stageAllOf(k, 1, true);
        due("all facts", k.commit(), 50);
        for (int i = 0; i < 12; i++) due("rule", k.rule(2, 2, i % 2, i / 2 % 2), i);
        for (int i = 0; i < 25; i++) due("twelve rules with five ways each", k.count(2, i / 5, i % 5), 60);
        stageAllOf(k, 1, false);
        due("25 facts", k.commit(), 25);
        due("the rules by 0 alone", k.count(2, 0, 0), 15);
    }

    private static int ruleBy(ViewKeeper k, int head, int[] look, int at) {
        return look[1] == 0 ? k.rule(head, look[0], at, 0) : k.rule(head, look[0], 0, at);
    }

    /** "CYCLE: a rule of form 4 .. this": its q leads back to it by way of so many others, of any form. */
    private static void cycleByThisRule() {
        for (int[] look : LOOKS) {
            for (int length = 1; length <= 4; length++) {
                ViewKeeper k = new ViewKeeper();
                for (int view = 2; view < 2 + length; view++) due("link", ruleBy(k, view + 1, look, view), view - 2);
                int last = 2 + length;
                due("by " + length + " of form " + look[0], k.rule(2, 4, 0, last), CYCLE);
                int byP = look[0] == 4 && look[1] == 1 ? CYCLE : length;
                due("by p it may lead back, unless a link is of form 4", k.rule(2, 4, last, 0), byP);
            }
        }
    }

    /** "CYCLE: a rule of form 4, an older one ..": a rule of any form closes the way from its q to its head. */
    private static void cycleByAnOlderRule() {
        for (int[] look : LOOKS) {
            for (int length = 1; length <= 4; length++) {
                ViewKeeper k = new ViewKeeper();
                int last = 2 + length;
                due("first of all", k.rule(2, 4, 0, last), 0);
                for (int view = 3; view < last; view++) due("link", ruleBy(k, view + 1, look, view), view - 2);
                due("closed by " + length + " of form " + look[0], ruleBy(k, 3, look, 2), CYCLE);
                due("not closed by a fact", ruleBy(k, 3, look, 1), length);
                due("nor by a q that is not looked at", k.rule(3, 0, 0, 2), length + 1);
                due("nor by a q that is not looked at", k.rule(3, 1, 0, 2), length + 2);
            }
        }
    }

    /** "CYCLE: .. could not stand then": it is then that counts, not what stood before. */
    private static void cycleOnlyWhileTheOtherStands() {
        ViewKeeper k = new ViewKeeper();
        due("3 by 2", k.rule(3, 0, 2, 0), 0);
        due("2 without 3", k.rule(2, 4, 0, 3), CYCLE);
        due("3 by 2 is undone", k.undo(), 0);
        due("2 without 3", k.rule(2, 4, 0, 3), 0);
        due("3 by 2", k.rule(3, 0, 2, 0), CYCLE);
        due("2 without 3 is undone", k.undo(), 0);
        due("3 by 2", k.rule(3, 0, 2, 0), 0);
        due("2 by 3", k.rule(2, 0, 3, 0), 1);
        due("4 without both", k.rule(4, 4, 2, 3), 2);
        due("5 without 4", k.rule(5, 4, 4, 4), 3);
        due("2 by 5", k.rule(2, 3, 5, 0), CYCLE);
        due("2 by itself without a fact", k.rule(2, 4, 2, 1), 4);
    }

    /** "Nothing was put in, taken out, suspected or saved any more", "what was staged stays"; the same by undo(). */
    private static void changesEndWithRuleAndUndo() {
        List<ToIntFunction<ViewKeeper>> calls = List.of(
            k -> k.rule(5, 0, 5, 0), k -> k.rule(2, 4, 0, 0), ViewKeeper::undo);
        int[] answers = {3, 3, 2};
        for (int i = 0; i < calls.size(); i++) {
            ViewKeeper k = made(ViewKeeperEdges::ways);
            for (int what = 0; what < 4; what++) due("there are changes", k.changed(2, what) > 0, true);
            due("there is a suspect", k.suspect(2, 0, 3), true);
            due("the call", calls.get(i).applyAsInt(k), answers[i]);
            for (int j = 0; j < 28; j++) due("nothing any more", k.changed(j / 4, j % 4), 0);
            for (int j = 0; j < 175; j++) due("no suspect any more", k.suspect(j / 25, j / 5 % 5, j % 5), false);
            due("not done by it", k.has(0, 0, 1), true);
            due("not done by it", k.has(1, 0, 3), false);
            due("what was staged stays", k.abort(), 2);
        }
    }

    // ---- Promise 3: undo

    /** "BAD: there is none": before the first, after the last, and as often as it is called. */
    private static void undoBad() {
        ViewKeeper k = new ViewKeeper();
        due("none", k.undo(), BAD);
        due("none still", k.undo(), BAD);
        due("the first", k.rule(2, 0, 0, 0), 0);
        due("one", k.undo(), 0);
        due("none again", k.undo(), BAD);
        due("a refused one", k.rule(2, 4, 0, 2), CYCLE);
        due("is none", k.undo(), BAD);
        due("rules", k.rules(), 0);
        due("the first", k.rule(2, 0, 0, 0), 0);
    }

    /** "Takes the rule with the greatest number away": that one, and from twelve down to none. */
    private static void undoFromTwelve() {
        ViewKeeper k = new ViewKeeper();
        stageAllOf(k, 0, true);
        k.commit();
        for (int i = 0; i < 12; i++) k.rule(2 + i % 5, 0, 0, 0);
        due("a refused one is not the one", k.rule(2, 0, 0, 0), FULL);
        for (int left = 11; left >= 0; left--) {
            due("undo", k.undo(), left);
            due("rules", k.rules(), left);
            for (int view = 2; view <= 6; view++) {
                int byRules = 0;
                for (int i = 0; i < left; i++) byRules += 2 + i % 5 == view ? 1 : 0;
                due("a pair of " + view + " by " + left, k.count(view, 4, 4), byRules);
                due("size of " + view + " by " + left, k.size(view), byRules > 0 ? 25 : 0);
            }
        }
    }

    // ---- Promise 4: stage

    /** "True; false when relation, x or y is none of these." */
    private static void stageWhatIsNone() {
        for (int relation : NUMBERS) {
            for (int x : NUMBERS) {
                for (int y : NUMBERS) {
                    boolean good = (relation == 0 || relation == 1) && isThing(x) && isThing(y);
                    ViewKeeper k = new ViewKeeper();
                    String call = "relation " + relation + ", x " + x + ", y " + y;
                    due(call + ", in", k.stage(relation, x, y, true), good);
                    due(call + ", facts staged", k.abort(), good ? 1 : 0);
                    due(call + ", out", k.stage(relation, x, y, false), good);
                    due(call + ", facts staged", k.abort(), good ? 1 : 0);
                }
            }
        }
    }

    /** "It takes the place of what was staged for it before": the last one of any number counts. */
    private static void stageTakesThePlace() {
        for (int turns = 0; turns < 32; turns++) {
            for (int was = 0; was <= 1; was++) {
                ViewKeeper k = new ViewKeeper();
                k.stage(1, 3, 4, was == 1);
                k.commit();
                for (int i = 0; i < 5; i++) due("stage", k.stage(1, 3, 4, (turns >> i & 1) == 1), true);
                due("another fact has its own place", k.stage(1, 4, 3, true), true);
                due("another relation, too", k.stage(0, 3, 4, false), true);
                int is = turns >> 4;
                due("the last one is done", k.commit(), is == was ? 1 : 2);
                due("the fact", k.has(1, 3, 4), is == 1);
                due("in", k.changed(1, 0), is > was ? 2 : 1);
                due("out", k.changed(1, 1), is < was ? 1 : 0);
            }
        }
    }

    // ---- Promise 5: commit

    /** With nothing staged: 0, and it is the latest commit, which has changed nothing. */
    private static void commitWithNothingStaged() {
        List<Consumer<ViewKeeper>> stories = List.of(ViewKeeperEdges::nothing, ViewKeeperEdges::onlyStaged,
            ViewKeeperEdges::ways, ViewKeeperEdges::twelve, ViewKeeperEdges::emptied, ViewKeeperEdges::allSuspects);
        for (Consumer<ViewKeeper> story : stories) {
            ViewKeeper k = made(story);
            k.abort();
            due("nothing staged any more", k.commit(), 0);
            for (int j = 0; j < 28; j++) due("nothing has changed", k.changed(j / 4, j % 4), 0);
            for (int j = 0; j < 175; j++) due("no suspect", k.suspect(j / 25, j / 5 % 5, j % 5), false);
            for (int relation = 0; relation < 7; relation++) {
                due("the pairs are what they were", k.size(relation), made(story).size(relation));
            }
        }
    }

    /** "Does what is staged, after which nothing is." */
    private static void commitLeavesNothingStaged() {
        ViewKeeper k = made(ViewKeeperEdges::ways);
        k.commit();
        due("nothing to abort", k.abort(), 0);
        due("nothing to commit", k.commit(), 0);
        k.stage(0, 0, 1, true);
        due("put in again by hand", k.commit() > 0, true);
        due("and not taken out by what had been staged", k.commit(), 0);
        due("the fact", k.has(0, 0, 1), true);
    }

    /** "PUT IN are the pairs that it has after but not before": staging what is so already changes nothing. */
    private static void commitWhatIsSoAlready() {
        ViewKeeper k = made(ViewKeeperEdges::allSuspects);
        stageAllOf(k, 0, true);
        stageAllOf(k, 1, false);
        due("all is so already", k.commit(), 0);
        for (int j = 0; j < 28; j++) due("nothing has changed", k.changed(j / 4, j % 4), 0);
        due("nor is a suspect", k.suspect(2, 0, 0), false);
    }

    /** The most that one commit can change: every pair of every relation. */
    private static void commitAllOfEverything() {
        ViewKeeper k = new ViewKeeper();
        for (int view = 2; view <= 6; view++) k.rule(view, 0, view % 2, 0);
        k.rule(6, 0, 6, 0);
        for (int turn = 0; turn < 2; turn++) {
            boolean in = turn == 0;
            stageAllOf(k, 0, in);
            stageAllOf(k, 1, in);
            due("175 pairs", k.commit(), 175);
            for (int relation = 0; relation < 7; relation++) {
                due("size", k.size(relation), in ? 25 : 0);
                due("put in", k.changed(relation, 0), in ? 25 : 0);
                due("taken out", k.changed(relation, 1), in ? 0 : 25);
                due("suspects", k.changed(relation, 2), relation == 6 && !in ? 25 : 0);
                due("saved", k.changed(relation, 3), 0);
            }
        }
    }

    // ---- Promise 6: abort

    /** "How many facts were": none, one that was staged twice, all there are; and facts that would change nothing. */
    private static void abortNothingAndAll() {
        ViewKeeper k = made(ViewKeeperEdges::ways);
        due("two", k.abort(), 2);
        due("none", k.abort(), 0);
        due("none still", k.abort(), 0);
        k.stage(0, 4, 4, true);
        k.stage(0, 4, 4, true);
        k.stage(0, 4, 4, false);
        due("one fact, three times", k.abort(), 1);
        k.stage(0, 0, 1, true);
        k.stage(1, 2, 2, false);
        due("two that are so already", k.abort(), 2);
        for (int turn = 0; turn < 2; turn++) {
            stageAllOf(k, 0, turn == 0);
            stageAllOf(k, 1, turn == 1);
        }
        due("all fifty", k.abort(), 50);
        due("nothing is left to do", k.commit(), 0);
        due("none after a commit", k.abort(), 0);
    }

    /** "Nothing is staged any more" is all that abort() does. */
    private static void abortChangesNothingElse() {
        changesNothing("abort with nothing staged", ViewKeeperEdges::allSuspects, ViewKeeper::abort);
        changesNothing("abort in a new object", ViewKeeperEdges::nothing, ViewKeeper::abort);
        for (int relation = 0; relation < 7; relation++) {
            ViewKeeper k = made(ViewKeeperEdges::ways);
            k.abort();
            due("relation " + relation, told(k, relation).equals(told(made(ViewKeeperEdges::ways), relation)), true);
        }
    }

    // ---- Promises 7, 8 and 14: has, count and suspect

    /** "False when there is no such relation or thing", where all that there is has every pair, each a suspect. */
    private static void hasCountAndSuspectOfNone() {
        Supply suspects = new Supply(ViewKeeperEdges::allSuspects);
        Supply once = new Supply(ViewKeeperEdges::allOnce);
        for (int relation : NUMBERS) {
            for (int x : NUMBERS) {
                for (int y : NUMBERS) {
                    String call = "relation " + relation + ", x " + x + ", y " + y;
                    boolean there = isRelation(relation) && isThing(x) && isThing(y);
                    due(call + ": has", suspects.next().has(relation, x, y), there && relation != 1);
                    due(call + ": has", once.next().has(relation, x, y), there);
                    due(call + ": count", once.next().count(relation, x, y), there ? 1 : BAD);
                    int count = there && !isView(relation) ? 1 - relation : BAD;
                    due(call + ": count, recursive", suspects.next().count(relation, x, y), count);
                    due(call + ": suspect", suspects.next().suspect(relation, x, y), there && isView(relation));
                    due(call + ": suspect, none", once.next().suspect(relation, x, y), false);
                }
            }
        }
    }

    /** "BAD: .. or the view is recursive": just as long as it is, and not for a view that only needs such a one. */
    private static void countOfRecursive() {
        ViewKeeper k = new ViewKeeper();
        due("no rule", k.count(2, 0, 0), 0);
        k.rule(2, 0, 0, 0);
        k.rule(3, 0, 2, 0);
        due("not recursive", k.count(2, 0, 0), 0);
        k.rule(2, 0, 3, 0);
        due("recursive, without the pair", k.count(2, 0, 0), BAD);
        due("recursive by way of the other", k.count(3, 0, 0), BAD);
        k.rule(4, 2, 2, 3);
        stageAllOf(k, 0, true);
        due("all in four", k.commit(), 100);
        due("recursive, with the pair", k.count(2, 0, 0), BAD);
        due("needs what is recursive", k.count(4, 0, 0), 5);
        k.undo();
        k.undo();
        due("not recursive any more", k.count(2, 4, 4), 1);
        due("nor the other", k.count(3, 4, 4), 1);
        due("a view without rules", k.count(4, 0, 0), 0);
    }

    /** "For facts 1 or 0." */
    private static void countOfFacts() {
        ViewKeeper k = new ViewKeeper();
        for (int relation = 0; relation < 2; relation++) {
            due("no fact", k.count(relation, 4, 0), 0);
            k.stage(relation, 4, 0, true);
            due("not yet", k.count(relation, 4, 0), 0);
            k.commit();
            due("a fact", k.count(relation, 4, 0), 1);
            k.stage(relation, 4, 0, true);
            k.commit();
            due("not twice", k.count(relation, 4, 0), 1);
            k.stage(relation, 4, 0, false);
            due("still", k.count(relation, 4, 0), 1);
            k.commit();
            due("no fact any more", k.count(relation, 4, 0), 0);
        }
    }

    /** "Whether a pair of a view was a suspect of the latest commit": of the latest alone, and of no other relation. */
    private static void suspectOfTheLatestCommit() {
        ViewKeeper k = new ViewKeeper();
        k.rule(2, 0, 0, 0);
        k.rule(2, 0, 2, 0);
        k.rule(3, 0, 2, 0);
        due("before the first commit", k.suspect(2, 1, 1), false);
        k.stage(0, 1, 1, true);
        k.commit();
        due("put in", k.suspect(2, 1, 1), false);
        k.stage(0, 1, 1, false);
        due("not yet", k.suspect(2, 1, 1), false);
        k.commit();
        due("taken out", k.suspect(2, 1, 1), true);
        due("a fact is none", k.suspect(0, 1, 1), false);
        due("nor is a pair of a view that is not recursive", k.suspect(3, 1, 1), false);
        due("a pair that was not in", k.suspect(2, 1, 2), false);
        k.abort();
        due("still the latest commit", k.suspect(2, 1, 1), true);
        k.commit();
        due("not of this one", k.suspect(2, 1, 1), false);
    }

    // ---- Promises 9, 10 and 11: size, recursive and needs

    /** "BAD: there is none such", "false for facts and when there is none such", "or the first one is no view". */
    private static void sizeRecursiveAndNeedsOfNone() {
        Supply k = new Supply(ViewKeeperEdges::allSuspects);
        for (int relation : NUMBERS) {
            boolean view = isView(relation);
            due("size of " + relation, k.next().size(relation), view || relation == 0 ? 25 : relation == 1 ? 0 : BAD);
            due("recursive " + relation, k.next().recursive(relation), view);
            for (int other : NUMBERS) {
                due(relation + " needs " + other, k.next().needs(relation, other), view && isRelation(other));
            }
        }
        due("no rules, no recursion", new ViewKeeper().recursive(2), false);
        due("no rules, no need", new ViewKeeper().needs(2, 2), false);
    }

    /** "A view is RECURSIVE when it needs itself": by the shortest way and by the longest, but never by form 4's q. */
    private static void recursiveByItsWays() {
        for (int[] look : LOOKS) {
            boolean mayStand = look[0] != 4 || look[1] != 1;
            for (int length = 1; mayStand && length <= 5; length++) {
                ViewKeeper k = new ViewKeeper();
                for (int view = 2; view < 1 + length; view++) ruleBy(k, view, look, view + 1);
                due("not yet", k.recursive(2), false);
                due("the last of " + length, ruleBy(k, 1 + length, look, 2), length - 1);
                for (int view = 2; view <= 6; view++) {
                    due("view " + view, k.recursive(view), view <= 1 + length);
                    due("view " + view + " needs itself", k.needs(view, view), view <= 1 + length);
                    due("view " + view + " needs 2", k.needs(view, 2), view <= 1 + length);
                }
                due("undo", k.undo(), length - 1);
                due("not any more", k.recursive(2), false);
            }
        }
    }

    // ---- Promise 12: rules

    /** From none to twelve, refused ones not counted. */
    private static void rulesFromNoneToTwelve() {
        ViewKeeper k = new ViewKeeper();
        for (int i = 0; i < 12; i++) {
            due("rules", k.rules(), i);
            due("refused", k.rule(3, 4, 0, 3), CYCLE);
            due("refused", k.rule(3, 0, 0, 7), BAD);
            due("rules", k.rules(), i);
            due("made", k.rule(3, 0, 0, 6), i);
        }
        due("rules", k.rules(), 12);
        due("refused", k.rule(3, 0, 0, 6), FULL);
        due("rules", k.rules(), 12);
    }

    // ---- Promise 13: changed

    /** "BAD: there is no such relation, or what is none of these": before any commit, after one, and after a rule. */
    private static void changedOfNone() {
        List<Consumer<ViewKeeper>> stories = new ArrayList<>();
        stories.add(ViewKeeperEdges::nothing);
        stories.add(ViewKeeperEdges::ways);
        stories.add(k -> {
            ways(k);
            k.undo();
        });
        int[] none = {0, 0, 0, 0};
        int[][] afterWays = {{2, 1, 0, 0}, none, {3, 3, 4, 1}, {3, 3, 0, 0}, none, none, none};
        for (int i = 0; i < stories.size(); i++) {
            Supply k = new Supply(stories.get(i));
            for (int relation : NUMBERS) {
                for (int what : NUMBERS) {
                    boolean there = isRelation(relation) && what >= 0 && what <= 3;
                    int want = !there ? BAD : i == 1 ? afterWays[relation][what] : 0;
                    String call = "state " + i + ": changed(" + relation + ", " + what + ")";
                    due(call, k.next().changed(relation, what), want);
                }
            }
        }
    }

    /** "Both 0 for views that are not recursive and facts": also where they have lost and got pairs. */
    private static void noSuspectsButOfRecursive() {
        ViewKeeper k = new ViewKeeper();
        for (int view = 2; view <= 6; view++) k.rule(view, 0, 0, 0);
        stageAllOf(k, 0, true);
        k.commit();
        stageAllOf(k, 0, false);
        due("all out", k.commit(), 150);
        for (int relation = 0; relation < 7; relation++) {
            due("suspects", k.changed(relation, 2), 0);
            due("saved", k.changed(relation, 3), 0);
        }
    }

    /** "0 before the first commit and after rule() and undo()": also with something staged, and with pairs in views. */
    private static void changedBeforeTheFirstCommit() {
        ViewKeeper k = made(ViewKeeperEdges::onlyStaged);
        for (int j = 0; j < 28; j++) due("only staged", k.changed(j / 4, j % 4), 0);
        k.abort();
        for (int j = 0; j < 28; j++) due("aborted", k.changed(j / 4, j % 4), 0);
        stageAllOf(k, 0, true);
        k.commit();
        due("a commit", k.changed(0, 0), 25);
        k.rule(2, 0, 0, 0);
        due("a rule fills the view", k.size(2), 25);
        for (int j = 0; j < 28; j++) due("but no commit has", k.changed(j / 4, j % 4), 0);
        k.commit();
        k.undo();
        due("undo empties it", k.size(2), 0);
        for (int j = 0; j < 28; j++) due("but no commit has", k.changed(j / 4, j % 4), 0);
    }

    /** Asking, with good and with wrong arguments, changes nothing. */
    private static void askingChangesNothing() {
        int[] some = {-1, 0, 2, 4, 7};
        changesNothing("asking", ViewKeeperEdges::ways, k -> {
            for (int a : some) {
                k.size(a);
                k.recursive(a);
                k.rules();
                for (int b : some) {
                    k.needs(a, b);
                    k.changed(a, b);
                    k.has(a, b, 3);
                    k.count(a, b, 1);
                    k.suspect(a, b, 2);
                }
            }
        });
    }

    public static void main(String[] args) {
        theLastOf512Calls();
        theLastOf512CallsWithCommits();
        eachPairHasItsPlace();
        formsThatDoNotLookAtQ();
        formFourAndItsQ();
        viewsWithoutAnyReason();
        theFirstRefusal();
        refusedCallsChangeNothing();
        aNewObjectIsEmpty();
        ruleBad();
        ruleFull();
        twelveRulesOverAllFacts();
        cycleByThisRule();
        cycleByAnOlderRule();
        cycleOnlyWhileTheOtherStands();
        changesEndWithRuleAndUndo();
        undoBad();
        undoFromTwelve();
        stageWhatIsNone();
        stageTakesThePlace();
        commitWithNothingStaged();
        commitLeavesNothingStaged();
        commitWhatIsSoAlready();
        commitAllOfEverything();
        abortNothingAndAll();
        abortChangesNothingElse();
        hasCountAndSuspectOfNone();
        countOfRecursive();
        countOfFacts();
        suspectOfTheLatestCommit();
        sizeRecursiveAndNeedsOfNone();
        recursiveByItsWays();
        rulesFromNoneToTwelve();
        changedOfNone();
        noSuspectsButOfRecursive();
        changedBeforeTheFirstCommit();
        askingChangesNothing();
        System.out.println(wrong == 0 ? "all " + asked + " answers are as due" : wrong + " answers are not as due");
        if (wrong != 0) System.exit(1);
    }
}
