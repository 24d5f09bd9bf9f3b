import java.util.ArrayList;
import java.util.List;

/**
 * The paragraphs of "Terms", one after the other, the words of each over its tests. What is due was worked out by hand
 * from these words, or is told by them so plainly that they stand in the test as they are. No object here gets more
 * than the 512 calls that the document speaks of.
 */
public final class ViewKeeperTerms {
    private static final int BAD = -1;
    private static final int FULL = -2;
    private static final int CYCLE = -3;

    private static int wrong = 0;
    private static int asked = 0;
    private static long seed = 20261115L;

    private static void due(String what, Object got, Object want) {
        asked++;
        if (!got.equals(want)) {
            wrong++;
            System.out.println(what + ": answered " + got + ", due is " + want);
        }
    }

    /** The same numbers in every run of the test. */
    private static int pick(int bound) {
        seed = seed * 6364136223846793005L + 1442695040888963407L;
        return (int) ((seed >>> 33) % bound);
    }

    /** The pairs as digits, "01 12" being (0, 1) and (1, 2). */
    private static void stage(ViewKeeper k, int relation, String pairs, boolean in) {
        for (String pair : pairs.split(" ")) k.stage(relation, pair.charAt(0) - '0', pair.charAt(1) - '0', in);
    }

    private static String pairs(ViewKeeper k, int relation) {
        List<String> found = new ArrayList<>();
        for (int i = 0; i < 25; i++) {
            if (k.has(relation, i / 5, i % 5)) found.add("" + i / 5 + i % 5);
        }
        return String.join(" ", found);
    }

    private static String suspects(ViewKeeper k, int relation) {
        List<String> found = new ArrayList<>();
        for (int i = 0; i < 25; i++) {
            if (k.suspect(relation, i / 5, i % 5)) found.add("" + i / 5 + i % 5);
        }
        return String.join(" ", found);
    }

    /** Put in, taken out, suspects and saved. */
    private static String changes(ViewKeeper k, int relation) {
        return k.changed(relation, 0) + " " + k.changed(relation, 1) + " " + k.changed(relation, 2) + " " + k.changed(relation, 3);
    }

    // ---- "THINGS are 0 .. 4. RELATIONS are 0 .. 6; each has a set of PAIRS (x, y) of things. Relations 0 and 1 hold
    // ---- FACTS; 2 .. 6 are VIEWS. RULES are numbered 0, 1, .. in the order in which they were made, at most 12; each has
    // ---- a HEAD, which is a view, a FORM, and BODY relations p and q (any relations). What a rule says, for all things
    // ---- x, y, z, by its form: .."

    private static boolean says(int form, boolean[][] p, boolean[][] q, int x, int y) {
        switch (form) {
            case 0: return p[x][y];
            case 1: return p[y][x];
            case 3: return p[x][y] && q[x][y];
            case 4: return p[x][y] && !q[x][y];
            default:
                boolean some = false;
                for (int z = 0; z < 5; z++) some |= p[x][z] && q[z][y];
                return some;
        }
    }

    private static boolean[][] madeUpFacts(ViewKeeper k, int relation, int percent) {
        boolean[][] facts = new boolean[5][5];
        for (int i = 0; i < 25; i++) {
            facts[i / 5][i % 5] = pick(100) < percent;
            k.stage(relation, i / 5, i % 5, facts[i / 5][i % 5]);
        }
        return facts;
    }

    private static void whatARuleSaysOfFacts() {
        for (int run = 0; run < 100; run++) {
            ViewKeeper k = new ViewKeeper();
            for (int form = 0; form < 5; form++) due("number of the rule", k.rule(6 - form, form, 0, 1), form);
            for (int transaction = 0; transaction < 2; transaction++) {
                boolean[][] p = madeUpFacts(k, 0, 20 + run % 5 * 15);
                boolean[][] q = madeUpFacts(k, 1, 20 + run % 4 * 20);
                k.commit();
                for (int i = 0; i < 125; i++) {
                    int form = i / 25;
                    int x = i / 5 % 5;
                    int y = i % 5;
                    due("form " + form + " of (" + x + ", " + y + ")", k.has(6 - form, x, y), says(form, p, q, x, y));
                }
            }
        }
    }

    private static void whatARuleSaysOfViews() {
        for (int form = 0; form < 5; form++) {
            ViewKeeper k = new ViewKeeper();
            k.rule(5, 0, 0, 0);
            k.rule(3, 1, 1, 1);
            k.rule(4, form, 5, 3);
            k.rule(2, form, 4, 4);
            boolean[][] p = madeUpFacts(k, 0, 50);
            boolean[][] q = madeUpFacts(k, 1, 50);
            k.commit();
            boolean[][] turned = new boolean[5][5];
            boolean[][] first = new boolean[5][5];
            for (int i = 0; i < 25; i++) turned[i / 5][i % 5] = q[i % 5][i / 5];
            for (int i = 0; i < 25; i++) first[i / 5][i % 5] = says(form, p, turned, i / 5, i % 5);
            for (int i = 0; i < 25; i++) {
                due("form " + form + " of views", k.has(4, i / 5, i % 5), first[i / 5][i % 5]);
                due("form " + form + " of one view twice", k.has(2, i / 5, i % 5), says(form, first, first, i / 5, i % 5));
            }
        }
    }

    private static void factsViewsAndRules() {
        for (int relation = -1; relation <= 7; relation++) {
            boolean facts = relation == 0 || relation == 1;
            boolean view = relation >= 2 && relation <= 6;
            ViewKeeper k = new ViewKeeper();
            due("facts are staged, " + relation, k.stage(relation, 4, 0, true), facts);
            due("a head is a view, " + relation, k.rule(relation, 0, 0, 0), view ? 0 : BAD);
            due("p is any relation, " + relation, k.rule(2, 2, relation, 0) != BAD, facts || view);
            due("q is any relation, " + relation, k.rule(2, 2, 0, relation) != BAD, facts || view);
        }
        ViewKeeper k = new ViewKeeper();
        for (int i = 0; i < 12; i++) due("numbered in the order in which they were made", k.rule(6 - i % 5, i % 4, i % 7, i % 2), i);
        due("at most 12", k.rule(2, 0, 0, 0), FULL);
    }

    // ---- "An INSTANCE of a rule is a choice of x and y (and z, for form 2) for which all that its "if" says holds; it
    // ---- GIVES its pair (x, y)."

    private static void oneInstanceGivesItsPair() {
        for (int i = 0; i < 125; i++) {
            int x = i / 25;
            int z = i / 5 % 5;
            int y = i % 5;
            ViewKeeper k = new ViewKeeper();
            k.rule(2, 2, 0, 1);
            k.stage(0, x, z, true);
            due("half of what its if says", k.commit(), 1);
            k.stage(1, z, y, true);
            due("all of it", k.commit(), 2);
            due("gives its pair", pairs(k, 2), "" + x + y);
            due("one choice of z", k.count(2, x, y), 1);
        }
        for (int i = 0; i < 25; i++) {
            int x = i / 5;
            int y = i % 5;
            ViewKeeper k = new ViewKeeper();
            for (int form = 0; form < 5; form++) if (form != 2) k.rule(2 + form, form, 0, 1);
            k.stage(0, x, y, true);
            due("what needs p alone", k.commit(), 1 + 3);
            due("form 0", pairs(k, 2), "" + x + y);
            due("form 1", pairs(k, 3), "" + y + x);
            due("form 3 without q", pairs(k, 5), "");
            due("form 4 without q", pairs(k, 6), "" + x + y);
            k.stage(1, x, y, true);
            due("form 3 comes, form 4 goes", k.commit(), 1 + 2);
            due("form 3 with q", pairs(k, 5), "" + x + y);
            due("form 4 with q", pairs(k, 6), "");
        }
    }

    private static void eachChoiceIsAnInstance() {
        ViewKeeper k = new ViewKeeper();
        k.rule(4, 2, 0, 1);
        stage(k, 0, "00 01 02 03 04 10", true);
        stage(k, 1, "00 10 20 30 40 01", true);
        k.commit();
        due("(0, 0) by each of five z", k.count(4, 0, 0), 5);
        due("(0, 1) by z = 0 alone", k.count(4, 0, 1), 1);
        due("(1, 0) by z = 0 alone", k.count(4, 1, 0), 1);
        due("(1, 1) by z = 0 alone", k.count(4, 1, 1), 1);
        due("(2, 0) by none", k.count(4, 2, 0), 0);
        due("the pairs", pairs(k, 4), "00 01 10 11");
    }

    // ---- "A view NEEDS the relations p, and q where the form looks at it, of the rules whose head it is, and what those
    // ---- need. A view is RECURSIVE when it needs itself. No rule of form 4 may stand whose head is needed by its q, or
    // ---- is its q."

    private static String needed(ViewKeeper k, int view) {
        StringBuilder found = new StringBuilder();
        for (int relation = 0; relation < 7; relation++) if (k.needs(view, relation)) found.append(relation);
        return found.toString();
    }

    private static void needsByForm() {
        for (int form = 0; form < 5; form++) {
            ViewKeeper k = new ViewKeeper();
            k.rule(3, form, 0, 1);
            due("p, and q by form " + form, needed(k, 3), form < 2 ? "0" : "01");
            k.rule(4, form, 5, 3);
            due("and what those need, form " + form, needed(k, 4), form < 2 ? "5" : "0135");
            due("the body needs nothing of the head", needed(k, 3), form < 2 ? "0" : "01");
            due("a view without rules", needed(k, 5), "");
        }
    }

    private static void needsAndRecursive() {
        ViewKeeper k = new ViewKeeper();
        k.rule(2, 0, 3, 0);
        k.rule(3, 3, 4, 1);
        k.rule(4, 1, 5, 0);
        due("a chain", needed(k, 2), "1345");
        due("a part of it", needed(k, 3), "145");
        due("its end", needed(k, 4), "5");
        due("none needs itself", k.recursive(2) || k.recursive(3) || k.recursive(4) || k.recursive(5), false);
        k.rule(4, 2, 0, 3);
        due("two views in a ring", needed(k, 3), "01345");
        due("the other one", needed(k, 4), "01345");
        due("a view over the ring", needed(k, 2), "01345");
        due("the ring is recursive", k.recursive(3) && k.recursive(4), true);
        due("what needs it is not", k.recursive(2), false);
        due("what it needs is not", k.recursive(5), false);
        k.undo();
        due("no ring any more", k.recursive(3) || k.recursive(4), false);
        due("nor what it needed", needed(k, 3), "145");
    }

    private static void formFourThatMayNotStand() {
        ViewKeeper k = new ViewKeeper();
        due("the head is its q", k.rule(2, 4, 0, 2), CYCLE);
        due("the head is its p", k.rule(2, 4, 2, 0), 0);
        due("q needs another view", k.rule(3, 0, 4, 0), 1);
        due("q that does not need the head", k.rule(5, 4, 0, 3), 2);
        due("then q would need the head", k.rule(4, 0, 5, 0), CYCLE);
        due("the head is needed by its q", k.rule(4, 4, 0, 3), CYCLE);
        due("the head is needed by its p", k.rule(4, 4, 3, 0), 3);
        due("q needs itself", k.rule(6, 4, 0, 4), 4);
    }

    // ---- "THE VIEWS ARE what the rules make of the facts: a view that is not recursive has just the pairs that instances
    // ---- of its rules give. Views that need one another have, together, the least sets of pairs such that every instance
    // ---- of their rules gives a pair that is in its head; what else they need being fixed before."

    private static void viewsThatAreNotRecursive() {
        ViewKeeper k = new ViewKeeper();
        stage(k, 0, "01 12", true);
        stage(k, 1, "12 24", true);
        k.commit();
        due("no rule, no pair", pairs(k, 3), "");
        k.rule(3, 2, 0, 1);
        due("one rule", pairs(k, 3), "02 14");
        k.rule(3, 1, 0, 0);
        due("two rules", pairs(k, 3), "02 10 14 21");
        k.rule(2, 4, 3, 0);
        k.rule(2, 3, 0, 1);
        due("over a view", pairs(k, 2), "02 10 12 14 21");
        k.undo();
        k.undo();
        due("no rule any more", pairs(k, 2), "");
    }

    /** View 2: an odd number of steps along relation 0. View 3: an even one, but not none. */
    private static ViewKeeper oddAndEven(String steps) {
        ViewKeeper k = new ViewKeeper();
        k.rule(3, 2, 0, 2);
        k.rule(2, 2, 0, 3);
        k.rule(2, 0, 0, 0);
        stage(k, 0, steps, true);
        k.commit();
        return k;
    }

    private static void viewsThatNeedOneAnother() {
        ViewKeeper k = oddAndEven("01 12 23 34");
        due("odd", pairs(k, 2), "01 03 12 14 23 34");
        due("even", pairs(k, 3), "02 04 13 24");
        ViewKeeper ring = oddAndEven("01 12 20");
        due("odd in a ring of three", ring.size(2), 9);
        due("even in a ring of three", ring.size(3), 9);
        ViewKeeper two = oddAndEven("01 10");
        due("odd in a ring of two", pairs(two, 2), "01 10");
        due("even in a ring of two", pairs(two, 3), "00 11");
    }

    private static void theLeastSets() {
        ViewKeeper k = new ViewKeeper();
        k.rule(2, 0, 3, 0);
        k.rule(3, 0, 2, 0);
        k.rule(4, 2, 4, 4);
        k.rule(5, 3, 5, 0);
        k.rule(2, 3, 0, 1);
        stage(k, 0, "00 01 11", true);
        due("nothing begins", k.commit(), 3);
        stage(k, 1, "01", true);
        due("a pair for 2, and so for 3", k.commit(), 3);
        stage(k, 1, "01", false);
        due("they do not hold one another", k.commit(), 3);
        due("empty again", pairs(k, 2) + pairs(k, 3) + pairs(k, 4) + pairs(k, 5), "");
    }

    private static void whatElseTheyNeedIsFixedBefore() {
        // View 6: the ways along 1. View 2: the facts of 0 that are no such way. View 5: the ways along 2.
        ViewKeeper k = new ViewKeeper();
        k.rule(5, 2, 5, 5);
        k.rule(5, 0, 2, 0);
        k.rule(2, 4, 0, 6);
        k.rule(6, 2, 6, 6);
        k.rule(6, 0, 1, 0);
        stage(k, 0, "01 12 23", true);
        stage(k, 1, "10 02", true);
        due("12 is a way along 1", k.commit(), 5 + 3 + 2 + 2);
        due("along 1", pairs(k, 6), "02 10 12");
        due("without these", pairs(k, 2), "01 23");
        due("along what is left", pairs(k, 5), "01 23");
        stage(k, 1, "02", false);
        due("02 and 12 go, 12 comes, and its ways", k.commit(), 1 + 2 + 1 + 4);
        due("ways along all of 0", pairs(k, 5), "01 02 03 12 13 23");
    }

    // ---- "THE COUNT of a pair in a view that is not recursive is the number of instances that give it."

    private static void theCount() {
        ViewKeeper k = new ViewKeeper();
        k.rule(2, 2, 0, 1);
        k.rule(2, 0, 0, 0);
        k.rule(2, 4, 1, 0);
        due("none", k.count(2, 0, 4), 0);
        int[][] facts = {{0, 0, 1}, {1, 1, 4}, {0, 0, 2}, {1, 2, 4}, {1, 0, 4}, {0, 0, 4}, {0, 0, 0}};
        int[] counts = {0, 1, 1, 2, 3, 3, 4};
        for (int i = 0; i < facts.length; i++) {
            k.stage(facts[i][0], facts[i][1], facts[i][2], true);
            k.commit();
            due("in, fact " + i, k.count(2, 0, 4), counts[i]);
            due("has, fact " + i, k.has(2, 0, 4), counts[i] > 0);
        }
        for (int i = facts.length - 1; i >= 0; i--) {
            k.stage(facts[i][0], facts[i][1], facts[i][2], false);
            k.commit();
            due("out, fact " + i, k.count(2, 0, 4), i == 0 ? 0 : counts[i - 1]);
            due("has no more, fact " + i, k.has(2, 0, 4), i > 0 && counts[i - 1] > 0);
        }
    }

    private static void theCountChangesAtOnce() {
        ViewKeeper k = new ViewKeeper();
        k.rule(2, 2, 0, 1);
        k.rule(2, 1, 0, 0);
        k.rule(2, 3, 0, 1);
        k.rule(3, 0, 2, 0);
        stage(k, 0, "01 02 40", true);
        stage(k, 1, "14 24", true);
        k.commit();
        due("two z, and turned", k.count(2, 0, 4), 3);
        stage(k, 0, "01 40 02", false);
        stage(k, 0, "03 04", true);
        stage(k, 1, "34 04", true);
        k.commit();
        due("another z, and in both", k.count(2, 0, 4), 2);
        due("it was in before and is in after", pairs(k, 2), "04 30 40");
        due("so it was neither put in nor taken out", changes(k, 2), "2 2 0 0");
        due("one instance, however many gave the body's pair", k.count(3, 0, 4), 1);
        due("a rule more", k.rule(2, 0, 1, 0), 4);
        due("an instance more", k.count(2, 0, 4), 3);
        due("a rule less", k.undo(), 4);
        due("an instance less", k.count(2, 0, 4), 2);
    }

    private static void theCountOverRecursiveViews() {
        ViewKeeper k = oddAndEven("01 12 23 34");
        k.rule(4, 2, 2, 2);
        k.rule(4, 0, 3, 0);
        due("02 by z = 1, and from even", k.count(4, 0, 2), 2);
        due("04 by z = 1 and 3, and from even", k.count(4, 0, 4), 3);
        stage(k, 0, "12", false);
        k.commit();
        due("02 no more", k.count(4, 0, 2), 0);
        due("04 no more", k.count(4, 0, 4), 0);
        due("24 is left", k.count(4, 2, 4), 2);
        due("a recursive view has none", k.count(2, 0, 1), BAD);
        k.rule(3, 0, 4, 0);
        due("nor one that becomes recursive", k.count(4, 2, 4), BAD);
        k.undo();
        due("until it is no more", k.count(4, 2, 4), 2);
    }

    // ---- "A TRANSACTION: facts are STAGED to be put in or taken out; commit() does all of it at once. Of the latest
    // ---- commit, relation by relation: PUT IN are the pairs that it has after but not before, TAKEN OUT those that it had
    // ---- before but not after."

    private static void allOfItAtOnce() {
        ViewKeeper k = new ViewKeeper();
        k.rule(3, 2, 0, 1);
        stage(k, 0, "01", true);
        stage(k, 1, "14", true);
        due("staged is not in", pairs(k, 0) + pairs(k, 1) + pairs(k, 3), "");
        due("commit", k.commit(), 3);
        stage(k, 0, "01", false);
        stage(k, 0, "02", true);
        stage(k, 1, "24 14", true);
        due("the pair of 3 by another z", k.commit(), 3);
        due("relation 0", changes(k, 0), "1 1 0 0");
        due("relation 1, 14 was in", changes(k, 1), "1 0 0 0");
        due("view 3", changes(k, 3), "0 0 0 0");
        due("no relation else", changes(k, 2) + changes(k, 4) + changes(k, 5) + changes(k, 6), "0 0 0 0".repeat(4));
        stage(k, 0, "02 33", false);
        due("33 was not in", k.commit(), 2);
        due("relation 0 of the latest", changes(k, 0), "0 1 0 0");
        due("relation 1 of the latest", changes(k, 1), "0 0 0 0");
        due("view 3 of the latest", changes(k, 3), "0 1 0 0");
    }

    // ---- "For recursive views there are also the SUSPECTS, of all views that need one another together the least sets
    // ---- such that: a pair is a suspect if an instance gives it in the state before, one of whose pairs was taken out of
    // ---- a relation that the view needs and that does not need the view, or is a suspect of a view that does, or, for
    // ---- form 4, whose pair was put into q. The SAVED are the suspects that are in the view after."

    private static void suspectsTogether() {
        ViewKeeper k = oddAndEven("01 12 23");
        due("odd", pairs(k, 2), "01 03 12 23");
        due("even", pairs(k, 3), "02 13");
        stage(k, 0, "12", false);
        stage(k, 0, "02", true);
        due("12 out, 02 in", k.commit(), 2 + 3 + 3);
        due("odd: 12 by the fact, 03 by the even 13", suspects(k, 2), "03 12");
        due("even: 13 by the fact, 02 by the odd 12", suspects(k, 3), "02 13");
        due("odd after", pairs(k, 2), "01 02 23");
        due("even after", pairs(k, 3), "03");
        due("odd changes", changes(k, 2), "1 2 2 0");
        due("even changes", changes(k, 3), "1 2 2 0");
        due("facts have none", changes(k, 0) + suspects(k, 0), "1 1 0 0");
    }

    private static void suspectsThatAreSaved() {
        ViewKeeper k = new ViewKeeper();
        k.rule(2, 0, 0, 0);
        k.rule(2, 2, 0, 2);
        k.rule(4, 0, 2, 0);
        stage(k, 0, "01 12 02 23", true);
        k.commit();
        stage(k, 0, "12", false);
        due("12 out, and 12 and 13 with it, in 2 and in 4", k.commit(), 1 + 2 + 2);
        due("02 and 03 have another reason, too", suspects(k, 2), "02 03 12 13");
        due("and are saved by it", pairs(k, 2), "01 02 03 23");
        due("two of four", changes(k, 2), "0 2 4 2");
        due("a view that is not recursive has none", changes(k, 4) + suspects(k, 4), "0 2 0 0");
        stage(k, 0, "23", false);
        stage(k, 0, "24 43", true);
        k.commit();
        due("a reason that is new saves, too", suspects(k, 2), "03 23");
        due("both", changes(k, 2), "3 0 2 2");
    }

    private static void onlyInstancesOfTheStateBefore() {
        ViewKeeper k = new ViewKeeper();
        k.rule(2, 0, 2, 0);
        k.rule(2, 3, 0, 1);
        k.rule(3, 2, 3, 3);
        k.rule(3, 0, 0, 0);
        stage(k, 0, "01", true);
        k.commit();
        stage(k, 0, "01", false);
        stage(k, 0, "12", true);
        stage(k, 1, "01 12", true);
        k.commit();
        due("no instance gave 01 before", suspects(k, 2), "");
        due("12 is new, 02 never was", suspects(k, 3), "01");
        due("what is only put in makes none", changes(k, 2), "1 0 0 0");
    }

    private static void suspectsByAPairPutIntoQ() {
        ViewKeeper k = new ViewKeeper();
        k.rule(2, 4, 0, 3);
        k.rule(2, 2, 2, 2);
        k.rule(3, 1, 1, 0);
        stage(k, 0, "01 12", true);
        k.commit();
        due("without 3", pairs(k, 2), "01 02 12");
        stage(k, 1, "10 43", true);
        due("01 and 34 are put into 3", k.commit(), 2 + 2 + 2);
        due("01, and 02 that leans on it; 34 is not in 0", suspects(k, 2), "01 02");
        stage(k, 1, "10", false);
        due("out of q is a reason to come", k.commit(), 1 + 1 + 2);
        due("but for no suspect", changes(k, 2), "2 0 0 0");
        stage(k, 1, "21", true);
        stage(k, 0, "02", true);
        due("12 is put into 3 as 02 is put into 0", k.commit(), 1 + 1 + 1 + 1);
        due("02 is a suspect", suspects(k, 2), "02 12");
        due("and saved", changes(k, 2), "0 1 2 1");
    }

    private static void suspectsByAViewBelow() {
        // View 6 is not recursive, view 5 is; neither needs view 2, which needs both.
        ViewKeeper k = new ViewKeeper();
        k.rule(2, 0, 2, 0);
        k.rule(2, 0, 5, 0);
        k.rule(2, 1, 6, 0);
        k.rule(5, 2, 5, 5);
        k.rule(5, 0, 0, 0);
        k.rule(6, 2, 0, 1);
        stage(k, 0, "01 12 02", true);
        stage(k, 1, "23 13", true);
        k.commit();
        due("6: 03 by two z, and 13", pairs(k, 6), "03 13");
        due("2", pairs(k, 2), "01 02 12 30 31");
        stage(k, 0, "12", false);
        k.commit();
        due("5: 12, and 02 that is saved", suspects(k, 5), "02 12");
        due("2: what was taken out of 5 and 6, turned, but not what was saved or has a count left", suspects(k, 2), "12 31");
        due("2 after", pairs(k, 2), "01 02 30");
    }

    // ---- "Of several refusals that fit the one named first is answered; a refused call changes nothing."

    private static void theRefusalNamedFirst() {
        ViewKeeper k = new ViewKeeper();
        due("BAD before CYCLE", k.rule(3, 4, 7, 3), BAD);
        due("CYCLE", k.rule(3, 4, 0, 3), CYCLE);
        for (int i = 0; i < 12; i++) k.rule(2, 0, 0, 0);
        due("FULL before CYCLE", k.rule(3, 4, 0, 3), FULL);
        due("BAD before FULL", k.rule(2, 0, 0, 7), BAD);
        due("BAD before both", k.rule(3, 4, -1, 3), BAD);
    }

    private static String state(ViewKeeper k) {
        StringBuilder told = new StringBuilder().append(k.rules());
        for (int relation = 0; relation < 7; relation++) {
            told.append('|').append(changes(k, relation)).append(' ').append(k.size(relation)).append(needed(k, relation));
        }
        return told.append(pairs(k, 2)).append(suspects(k, 2)).append(k.count(4, 0, 2)).toString();
    }

    private static void aRefusedCallChangesNothing() {
        ViewKeeper k = oddAndEven("01 12 23");
        k.rule(4, 4, 3, 1);
        stage(k, 0, "12", false);
        stage(k, 0, "02", true);
        k.commit();
        stage(k, 0, "12", true);
        String before = state(k);
        due("head 1", k.rule(1, 0, 0, 0), BAD);
        due("its own q", k.rule(5, 4, 0, 5), CYCLE);
        due("a view is staged", k.stage(2, 0, 1, false), false);
        due("no thing is staged", k.stage(0, 5, 0, true), false);
        due("all is as before", state(k), before);
        due("one fact is staged still", k.abort(), 1);
        ViewKeeper none = new ViewKeeper();
        stage(none, 0, "12", true);
        none.commit();
        before = state(none);
        due("no rule to take away", none.undo(), BAD);
        due("it leaves all as it was", state(none), before);
    }

    public static void main(String[] args) {
        whatARuleSaysOfFacts();
        whatARuleSaysOfViews();
        factsViewsAndRules();
        oneInstanceGivesItsPair();
        eachChoiceIsAnInstance();
        needsByForm();
        needsAndRecursive();
        formFourThatMayNotStand();
        viewsThatAreNotRecursive();
        viewsThatNeedOneAnother();
        theLeastSets();
        whatElseTheyNeedIsFixedBefore();
        theCount();
        theCountChangesAtOnce();
        theCountOverRecursiveViews();
        allOfItAtOnce();
        suspectsTogether();
        suspectsThatAreSaved();
        onlyInstancesOfTheStateBefore();
        suspectsByAPairPutIntoQ();
        suspectsByAViewBelow();
        theRefusalNamedFirst();
        aRefusedCallChangesNothing();
        System.out.println(wrong == 0 ? "all " + asked + " answers are as due" : wrong + " of " + asked + " answers are not as due");
        if (wrong != 0) System.exit(1);
    }
}
