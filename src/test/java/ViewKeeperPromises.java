/** For each promise of the document: ordinary inputs, the edges that it names, and wrong inputs. */
public final class ViewKeeperPromises {
    private static final int BAD = -1;
    private static final int FULL = -2;
    private static final int CYCLE = -3;
    private static final int[] NO_THINGS = {-1, 5, 32, -32, Integer.MIN_VALUE, Integer.MAX_VALUE};
    private static final int[] NO_RELATIONS = {-1, 7, 32, -32, Integer.MIN_VALUE, Integer.MAX_VALUE};

    private static int wrong = 0;
    private static int asked = 0;

    private static void due(String what, int got, int want) {
        asked++;
        if (got != want) {
            wrong++;
            System.out.println(what + ": answered " + got + ", due is " + want);
        }
    }

    private static void due(String what, boolean got, boolean want) {
        due(what, got ? 1 : 0, want ? 1 : 0);
    }

    /** The pairs as digits, "01 12" being (0, 1) and (1, 2). */
    private static void stageAll(ViewKeeper k, int relation, String pairs, boolean in) {
        for (String pair : pairs.split(" ")) {
            due("stage " + pair, k.stage(relation, pair.charAt(0) - '0', pair.charAt(1) - '0', in), true);
        }
    }

    private static void isExactly(String what, ViewKeeper k, int relation, String pairs) {
        StringBuilder found = new StringBuilder();
        for (int x = 0; x < 5; x++) {
            for (int y = 0; y < 5; y++) {
                if (k.has(relation, x, y)) found.append(found.length() == 0 ? "" : " ").append(x).append(y);
            }
        }
        due(what + ": relation " + relation + " has " + found + ", due is " + pairs, found.toString().equals(pairs), true);
        due(what + ": size of relation " + relation, k.size(relation), pairs.isEmpty() ? 0 : pairs.split(" ").length);
    }

    private static void suspectsAre(String what, ViewKeeper k, int relation, String pairs) {
        StringBuilder found = new StringBuilder();
        for (int x = 0; x < 5; x++) {
            for (int y = 0; y < 5; y++) {
                if (k.suspect(relation, x, y)) found.append(found.length() == 0 ? "" : " ").append(x).append(y);
            }
        }
        due(what + ": suspects of " + relation + " were " + found + ", due is " + pairs, found.toString().equals(pairs), true);
        due(what + ": number of suspects of " + relation, k.changed(relation, 2), pairs.isEmpty() ? 0 : pairs.split(" ").length);
    }

    private static void changes(String what, ViewKeeper k, int relation, int in, int out, int suspects, int saved) {
        due(what + ": put into " + relation, k.changed(relation, 0), in);
        due(what + ": taken out of " + relation, k.changed(relation, 1), out);
        due(what + ": suspects of " + relation, k.changed(relation, 2), suspects);
        due(what + ": saved of " + relation, k.changed(relation, 3), saved);
    }

    private static void noChanges(String what, ViewKeeper k) {
        for (int relation = 0; relation < 7; relation++) {
            changes(what, k, relation, 0, 0, 0, 0);
            suspectsAre(what, k, relation, "");
        }
    }

    /** View 2 is where relation 0 leads in one or more steps; relation 0 is 0 -> 1 -> 2 -> 3. */
    private static ViewKeeper ways() {
        ViewKeeper k = new ViewKeeper();
        k.rule(2, 0, 0, 0);
        k.rule(2, 2, 0, 2);
        stageAll(k, 0, "01 12 23", true);
        due("commit of ways", k.commit(), 9);
        return k;
    }

    private static void newObject() {
        ViewKeeper k = new ViewKeeper();
        for (int relation = 0; relation < 7; relation++) {
            isExactly("new", k, relation, "");
            due("new: recursive", k.recursive(relation), false);
            for (int other = 0; other < 7; other++) due("new: needs", k.needs(relation, other), false);
            for (int thing = 0; thing < 5; thing++) due("new: count", k.count(relation, thing, 4 - thing), 0);
        }
        noChanges("new", k);
        due("new: rules", k.rules(), 0);
        due("new: abort", k.abort(), 0);
        due("new: undo", k.undo(), BAD);
        due("new: commit", k.commit(), 0);
        ViewKeeper first = ways();
        isExactly("new beside another", new ViewKeeper(), 0, "");
        due("new beside another: rules", new ViewKeeper().rules(), 0);
        due("the other one", first.size(2), 6);
    }

    private static void ruleForms() {
        String[] wants = {"01 12 44", "10 21 44", "02 03 13 14 44", "12 44", "01"};
        for (int form = 0; form < 5; form++) {
            ViewKeeper k = new ViewKeeper();
            stageAll(k, 0, "01 12 44", true);
            stageAll(k, 1, "12 13 23 24 44", true);
            due("facts alone", k.commit(), 8);
            due("rule of form " + form, k.rule(6, form, 0, 1), 0);
            isExactly("form " + form, k, 6, wants[form]);
            noChanges("after rule of form " + form, k);
        }
    }

    private static void ruleNumbersAndState() {
        ViewKeeper k = ways();
        k.stage(0, 3, 4, true);
        k.stage(0, 0, 1, false);
        due("third rule", k.rule(3, 1, 2, 0), 2);
        isExactly("made at once", k, 3, "10 20 21 30 31 32");
        noChanges("after rule", k);
        due("what was staged stays", k.abort(), 2);
        isExactly("staged is not done", k, 0, "01 12 23");
        due("a second rule for a head adds", k.rule(3, 0, 0, 6), 3);
        isExactly("both rules", k, 3, "01 10 12 20 21 23 30 31 32");
        due("a rule that makes other views anew", k.rule(2, 1, 0, 0), 4);
        isExactly("other view by the new rule", k, 2, "00 01 02 03 10 11 12 13 21 22 23 32");
    }

    private static void ruleRefused() {
        ViewKeeper k = ways();
        k.stage(0, 1, 2, false);
        k.commit();
        k.stage(0, 0, 4, true);
        int[] noHeads = {1, 0, -1, 7, 34, Integer.MIN_VALUE, Integer.MAX_VALUE};
        for (int head : noHeads) due("rule with head " + head, k.rule(head, 0, 0, 0), BAD);
        for (int form : NO_THINGS) due("rule with form " + form, k.rule(2, form, 0, 0), BAD);
        for (int other : NO_RELATIONS) {
            for (int form = 0; form < 5; form++) {
                due("rule with p " + other, k.rule(2, form, other, 0), BAD);
                due("rule with q " + other, k.rule(2, form, 0, other), BAD);
            }
        }
        due("rule that is its own q", k.rule(3, 4, 0, 3), CYCLE);
        due("refused rules change nothing", k.rules(), 2);
        due("refused rules leave needs", k.needs(3, 3) || k.needs(3, 0), false);
        changes("refused rules leave changes", k, 2, 0, 4, 4, 0);
        suspectsAre("refused rules leave suspects", k, 2, "02 03 12 13");
        due("refused rules leave what is staged", k.abort(), 1);
        isExactly("refused rules leave pairs", k, 2, "01 23");
    }

    private static void ruleFull() {
        ViewKeeper k = new ViewKeeper();
        for (int i = 0; i < 12; i++) due("rule " + i, k.rule(2 + i % 5, 0, i % 2, 0), i);
        due("thirteenth", k.rule(2, 0, 0, 0), FULL);
        due("thirteenth, wrong too", k.rule(1, 0, 0, 0), BAD);
        due("thirteenth, cycle too", k.rule(2, 4, 0, 2), FULL);
        due("still twelve", k.rules(), 12);
        due("one back", k.undo(), 11);
        due("twelfth again", k.rule(3, 2, 1, 0), 11);
        due("full again", k.rule(3, 2, 1, 0), FULL);
    }

    private static void ruleCycle() {
        ViewKeeper k = new ViewKeeper();
        due("4 without 3", k.rule(4, 4, 0, 3), 0);
        due("3 by 2", k.rule(3, 0, 2, 0), 1);
        due("2 by 4 would lead 3 back to 4", k.rule(2, 3, 0, 4), CYCLE);
        due("this one: 3 without 4 leads back", k.rule(3, 2, 1, 4), CYCLE);
        due("q that form 0 does not look at", k.rule(2, 0, 0, 4), 2);
        due("q that form 1 does not look at", k.rule(3, 1, 0, 4), 3);
        due("p may lead back", k.rule(4, 4, 4, 3), 4);
        due("so it is recursive", k.recursive(4), true);
        due("q may be p", k.rule(5, 4, 6, 6), 5);
        due("q may be recursive", k.rule(6, 4, 0, 4), 6);
        due("q is the head", k.rule(6, 4, 0, 6), CYCLE);
        due("q needs the head", k.rule(6, 4, 0, 5), CYCLE);
        due("seven stand", k.rules(), 7);
        due("after undo what was refused ", k.undo(), 6);
        due("may stand", k.rule(4, 4, 0, 6), 6);
    }

    private static void undoRule() {
        ViewKeeper k = ways();
        k.rule(3, 4, 2, 0);
        isExactly("before undo", k, 3, "02 03 13");
        k.stage(0, 3, 0, true);
        due("commit", k.commit(), 1 + 10 + 9);
        k.stage(0, 2, 3, false);
        k.stage(1, 2, 3, true);
        due("undo the last", k.undo(), 2);
        isExactly("no rule for 3", k, 3, "");
        noChanges("after undo", k);
        due("undo the way through itself", k.undo(), 1);
        isExactly("facts alone", k, 2, "01 12 23 30");
        due("no longer recursive", k.recursive(2), false);
        due("rules", k.rules(), 1);
        due("staged stays", k.abort(), 2);
        due("undo the first", k.undo(), 0);
        isExactly("no rule at all", k, 2, "");
        isExactly("facts stay", k, 0, "01 12 23 30");
        k.stage(0, 2, 3, false);
        k.commit();
        due("none left", k.undo(), BAD);
        changes("refused undo changes nothing", k, 0, 0, 1, 0, 0);
    }

    private static void stageFacts() {
        ViewKeeper k = ways();
        due("in", k.stage(0, 4, 4, true), true);
        due("out", k.stage(0, 0, 1, false), true);
        due("out of what is not in", k.stage(1, 0, 0, false), true);
        isExactly("not before commit", k, 0, "01 12 23");
        due("in takes the place of out", k.stage(0, 0, 1, true), true);
        due("out takes the place of in", k.stage(0, 4, 4, false), true);
        due("in again", k.stage(1, 3, 2, true), true);
        due("nothing has changed", k.commit(), 1);
        isExactly("relation 0", k, 0, "01 12 23");
        isExactly("relation 1", k, 1, "32");
        for (int relation = 2; relation < 7; relation++) due("a view", k.stage(relation, 0, 0, true), false);
        for (int none : NO_RELATIONS) due("no relation", k.stage(none, 0, 0, true), false);
        for (int none : NO_THINGS) {
            due("x is no thing", k.stage(0, none, 0, true), false);
            due("y is no thing", k.stage(0, 0, none, false), false);
            due("both are none", k.stage(1, none, none, true), false);
        }
        due("refused are not staged", k.abort(), 0);
    }

    private static void stageEveryFact() {
        ViewKeeper k = new ViewKeeper();
        for (int i = 0; i < 50; i++) due("stage", k.stage(i / 25, i / 5 % 5, i % 5, true), true);
        due("all of them", k.commit(), 50);
        for (int i = 0; i < 50; i++) due("has", k.has(i / 25, i / 5 % 5, i % 5), true);
        due("join of all", k.rule(2, 2, 0, 1), 0);
        due("five ways", k.count(2, 4, 4), 5);
        due("through itself", k.rule(2, 2, 2, 2), 1);
        due("still all", k.size(2), 25);
        for (int i = 0; i < 25; i++) k.stage(1, i / 5, i % 5, false);
        due("all of 1, and all of 2", k.commit(), 50);
        changes("all gone", k, 2, 0, 25, 25, 0);
    }

    private static void commitTransactions() {
        ViewKeeper k = ways();
        changes("first", k, 0, 3, 0, 0, 0);
        changes("first", k, 2, 6, 0, 0, 0);
        due("nothing staged any more", k.commit(), 0);
        noChanges("an empty commit is the latest", k);
        stageAll(k, 0, "01 12", true);
        stageAll(k, 0, "40 41", false);
        due("what is so already", k.commit(), 0);
        stageAll(k, 0, "12", false);
        stageAll(k, 0, "03", true);
        due("in and out at once", k.commit(), 5);
        changes("in and out", k, 0, 1, 1, 0, 0);
        changes("in and out", k, 2, 0, 3, 4, 1);
        isExactly("in and out", k, 2, "01 03 23");
        due("and nothing is staged", k.abort(), 0);
    }

    private static void commitThroughLayers() {
        // A view that needs views with greater numbers, so that no order by number will do.
        ViewKeeper k = new ViewKeeper();
        k.rule(2, 4, 3, 4);
        k.rule(3, 1, 5, 0);
        k.rule(4, 2, 6, 6);
        k.rule(5, 3, 6, 0);
        k.rule(6, 0, 0, 0);
        stageAll(k, 0, "01 12 20 33", true);
        due("commit", k.commit(), 4 + 4 + 4 + 4 + 4);
        isExactly("layers", k, 3, "02 10 21 33");
        isExactly("layers", k, 4, "02 10 21 33");
        isExactly("layers", k, 2, "");
        stageAll(k, 0, "12", false);
        due("one out", k.commit(), 1 + 2 + 1 + 2 + 1 + 1);
        isExactly("layers", k, 3, "02 10 33");
        isExactly("layers", k, 4, "21 33");
        isExactly("layers", k, 2, "02 10");
        changes("put in, as what it is without has lost", k, 2, 2, 0, 0, 0);
    }

    private static void commitThroughAllRelations() {
        ViewKeeper k = new ViewKeeper();
        k.rule(6, 0, 0, 0);
        k.rule(5, 4, 1, 6);
        k.rule(4, 0, 5, 0);
        k.rule(3, 1, 4, 0);
        k.rule(2, 4, 0, 3);
        stageAll(k, 0, "01 02", true);
        stageAll(k, 1, "02 10", true);
        due("a chain of all seven", k.commit(), 2 + 2 + 2 + 1 + 1 + 1 + 1);
        isExactly("end of the chain", k, 2, "02");
        stageAll(k, 1, "10", false);
        due("from one end to the other", k.commit(), 5);
        isExactly("end of the chain", k, 2, "01 02");
        due("a rule makes the whole chain anew", k.rule(5, 1, 0, 0), 5);
        isExactly("end of the chain", k, 2, "");
        due("and so does undo", k.undo(), 5);
        isExactly("end of the chain", k, 2, "01 02");
    }

    private static void abortTransactions() {
        ViewKeeper k = ways();
        stageAll(k, 0, "01 02 03", true);
        stageAll(k, 0, "01 23 44", false);
        stageAll(k, 1, "01", true);
        due("each fact once", k.abort(), 6);
        due("none any more", k.abort(), 0);
        changes("abort leaves the latest commit", k, 2, 6, 0, 0, 0);
        due("nothing to do", k.commit(), 0);
        isExactly("nothing was done", k, 0, "01 12 23");
        isExactly("nothing was done", k, 1, "");
    }

    private static void hasPairs() {
        ViewKeeper k = ways();
        isExactly("facts", k, 0, "01 12 23");
        isExactly("view", k, 2, "01 02 03 12 13 23");
        stageAll(k, 0, "00 44 40 04", true);
        k.commit();
        isExactly("corners", k, 0, "00 01 04 12 23 40 44");
        for (int none : NO_RELATIONS) due("no relation", k.has(none, 0, 0), false);
        for (int none : NO_THINGS) {
            due("no x", k.has(0, none, 0), false);
            due("no y", k.has(0, 0, none), false);
            due("no y in a view", k.has(2, 0, none), false);
        }
    }

    private static void counts() {
        ViewKeeper k = new ViewKeeper();
        stageAll(k, 0, "01 02 03 04 00", true);
        stageAll(k, 1, "14 24 34 44 04", true);
        k.commit();
        k.rule(3, 2, 0, 1);
        due("ways of one rule", k.count(3, 0, 4), 5);
        k.rule(3, 2, 0, 1);
        due("the same rule twice", k.count(3, 0, 4), 10);
        k.rule(3, 3, 0, 1);
        due("and in both", k.count(3, 0, 4), 11);
        k.rule(3, 3, 0, 0);
        due("in p and q, the same, is one instance", k.count(3, 0, 4), 12);
        k.rule(3, 1, 1, 1);
        due("turned", k.count(3, 4, 1), 1);
        due("turned and in 0", k.count(3, 0, 4), 12);
        due("a pair that is not in", k.count(3, 1, 1), 0);
        due("a fact", k.count(0, 0, 4), 1);
        k.stage(1, 0, 3, true);
        due("a staged fact", k.count(1, 0, 3), 0);
        k.commit();
        due("a new fact", k.count(1, 0, 3), 1);
        k.stage(1, 0, 3, false);
        k.commit();
        due("no fact", k.count(1, 0, 3), 0);
        k.rule(4, 4, 3, 0);
        due("without", k.count(4, 0, 4), 0);
        due("without", k.count(4, 4, 1), 1);
        k.rule(5, 0, 3, 0);
        due("a pair of a body counts once", k.count(5, 0, 4), 1);
        stageAll(k, 0, "01", false);
        k.commit();
        due("one way less in each rule", k.count(3, 0, 4), 10);
        k.rule(6, 0, 6, 0);
        due("recursive", k.count(6, 0, 0), BAD);
        due("recursive, no thing", k.count(6, 5, 0), BAD);
        k.rule(5, 3, 6, 0);
        due("needs a recursive view", k.count(5, 0, 4), 1);
        k.undo();
        k.undo();
        due("no longer recursive", k.count(6, 0, 0), 0);
        for (int none : NO_RELATIONS) due("no relation", k.count(none, 0, 0), BAD);
        for (int none : NO_THINGS) {
            for (int relation = 0; relation < 7; relation++) {
                due("no x", k.count(relation, none, 0), BAD);
                due("no y", k.count(relation, 0, none), BAD);
            }
        }
    }

    private static void sizes() {
        ViewKeeper k = ways();
        due("facts", k.size(0), 3);
        due("no facts", k.size(1), 0);
        due("recursive", k.size(2), 6);
        due("no rules", k.size(6), 0);
        for (int none : NO_RELATIONS) due("no relation", k.size(none), BAD);
    }

    private static void recursiveViews() {
        ViewKeeper k = new ViewKeeper();
        k.rule(2, 0, 3, 2);
        due("q is not looked at", k.recursive(2), false);
        k.rule(3, 1, 4, 3);
        k.rule(4, 3, 0, 5);
        k.rule(6, 0, 2, 0);
        due("no way back yet", k.recursive(4), false);
        k.rule(5, 2, 0, 2);
        for (int view = 2; view < 6; view++) due("round by four", k.recursive(view), true);
        due("needs what is recursive", k.recursive(6), false);
        due("facts", k.recursive(0) || k.recursive(1), false);
        k.undo();
        due("no way back any more", k.recursive(2), false);
        k.rule(6, 0, 6, 0);
        due("by way of itself alone", k.recursive(6), true);
        for (int none : NO_RELATIONS) due("no relation", k.recursive(none), false);
    }

    private static void needsRelations() {
        ViewKeeper k = new ViewKeeper();
        k.rule(6, 0, 5, 1);
        k.rule(5, 1, 2, 1);
        k.rule(2, 4, 3, 0);
        int[][] due = {{}, {}, {3, 0}, {}, {}, {2, 3, 0}, {5, 2, 3, 0}};
        for (int view = 0; view < 7; view++) {
            for (int relation = 0; relation < 7; relation++) {
                boolean want = false;
                for (int one : due[view]) want |= one == relation;
                due(view + " needs " + relation, k.needs(view, relation), want);
            }
        }
        k.rule(3, 2, 1, 6);
        due("round", k.needs(2, 2) && k.needs(3, 3) && k.needs(6, 6) && k.needs(3, 1), true);
        due("not in the round", k.needs(4, 4) || k.needs(4, 0), false);
        for (int none : NO_RELATIONS) {
            due("no view", k.needs(none, 0), false);
            due("no relation", k.needs(2, none), false);
        }
        due("facts need nothing", k.needs(0, 0) || k.needs(1, 0) || k.needs(0, 2), false);
    }

    private static void rulesThereAre() {
        ViewKeeper k = new ViewKeeper();
        for (int i = 0; i < 12; i++) {
            due("rules", k.rules(), i);
            k.rule(2, 0, 0, 0);
        }
        due("rules", k.rules(), 12);
        k.rule(2, 0, 0, 0);
        due("refused", k.rules(), 12);
        k.undo();
        due("one less", k.rules(), 11);
        k.rule(3, 4, 0, 3);
        due("cycle", k.rules(), 11);
    }

    private static void changedRelations() {
        ViewKeeper k = ways();
        k.rule(3, 0, 2, 0);
        noChanges("after rule", k);
        stageAll(k, 0, "12", false);
        stageAll(k, 0, "03 34", true);
        k.commit();
        changes("facts", k, 0, 2, 1, 0, 0);
        changes("other facts", k, 1, 0, 0, 0, 0);
        changes("recursive", k, 2, 3, 3, 4, 1);
        changes("not recursive", k, 3, 3, 3, 0, 0);
        k.has(2, 0, 0);
        k.abort();
        k.stage(0, 0, 0, true);
        changes("until the next commit", k, 2, 3, 3, 4, 1);
        for (int none : NO_RELATIONS) {
            for (int what = 0; what < 4; what++) due("no relation", k.changed(none, what), BAD);
        }
        int[] noWhats = {-1, 4, 5, Integer.MIN_VALUE, Integer.MAX_VALUE};
        for (int none : noWhats) {
            for (int relation = 0; relation < 7; relation++) due("no such what", k.changed(relation, none), BAD);
        }
    }

    private static void suspectPairs() {
        ViewKeeper k = ways();
        stageAll(k, 0, "12", false);
        stageAll(k, 0, "03", true);
        k.commit();
        suspectsAre("in the middle", k, 2, "02 03 12 13");
        due("saved by another reason", k.has(2, 0, 3), true);
        for (int none : NO_RELATIONS) due("no relation", k.suspect(none, 0, 3), false);
        for (int none : NO_THINGS) {
            due("no x", k.suspect(2, none, 3), false);
            due("no y", k.suspect(2, 0, none), false);
        }
        due("facts", k.suspect(0, 1, 2), false);
        due("no rules", k.suspect(6, 1, 2), false);
        k.commit();
        suspectsAre("an empty commit", k, 2, "");
    }

    private static void suspectsOfAPutInPair() {
        ViewKeeper k = new ViewKeeper();
        k.rule(2, 4, 0, 1);
        k.rule(2, 2, 2, 2);
        k.rule(2, 4, 2, 3);
        k.rule(3, 1, 1, 0);
        stageAll(k, 0, "01 12", true);
        stageAll(k, 1, "33", true);
        k.commit();
        isExactly("two steps", k, 2, "01 02 12");
        stageAll(k, 1, "12", true);
        due("a fact less to be without", k.commit(), 1 + 1 + 2);
        suspectsAre("put into q", k, 2, "02 12");
        stageAll(k, 1, "12", false);
        due("back again", k.commit(), 4);
        suspectsAre("taken out of q is no reason", k, 2, "");
        stageAll(k, 1, "20", true);
        due("put into a view that is q", k.commit(), 2);
        suspectsAre("put into a view that is q", k, 2, "02");
        changes("saved by the other rule", k, 2, 0, 0, 1, 1);
    }

    /** View 2 is recursive by a rule that says nothing, so that the rule in question alone tells the suspects. */
    private static ViewKeeper leaning(int form) {
        ViewKeeper k = new ViewKeeper();
        k.rule(2, 0, 2, 0);
        k.rule(2, form, 0, 1);
        stageAll(k, 0, "00 01 12 33", true);
        stageAll(k, 1, "01 12 13 33", true);
        k.commit();
        return k;
    }

    private static void suspectsAfterTakingOut(int form, int relation, String out, String due) {
        ViewKeeper k = leaning(form);
        stageAll(k, relation, out, false);
        k.commit();
        suspectsAre("form " + form + ", " + out + " out of " + relation, k, 2, due);
    }

    private static void suspectsByForm() {
        suspectsAfterTakingOut(0, 0, "01", "01");
        suspectsAfterTakingOut(0, 1, "01", "");
        suspectsAfterTakingOut(1, 0, "01", "10");
        suspectsAfterTakingOut(1, 1, "01", "");
        suspectsAfterTakingOut(2, 0, "01", "02 03");
        suspectsAfterTakingOut(2, 1, "12", "02");
        suspectsAfterTakingOut(3, 0, "01", "01");
        suspectsAfterTakingOut(3, 1, "12", "12");
        suspectsAfterTakingOut(3, 0, "00", "");
        suspectsAfterTakingOut(3, 1, "13", "");
        suspectsAfterTakingOut(4, 0, "00", "00");
        suspectsAfterTakingOut(4, 0, "01", "");
        suspectsAfterTakingOut(4, 1, "01", "");
    }

    private static void suspectsByBothBodiesAtOnce() {
        ViewKeeper k = leaning(3);
        stageAll(k, 0, "01", false);
        stageAll(k, 1, "01 12", false);
        due("the one pair of 2 for each", k.commit(), 3 + 2);
        suspectsAre("both", k, 2, "01 12");
        ViewKeeper w = leaning(4);
        stageAll(w, 0, "00", false);
        stageAll(w, 1, "00", true);
        due("gone from p and put into q", w.commit(), 3);
        suspectsAre("both", w, 2, "00");
    }

    private static void suspectsAmongSeveralViews() {
        ViewKeeper k = new ViewKeeper();
        k.rule(2, 0, 0, 0);
        k.rule(2, 1, 3, 0);
        k.rule(3, 2, 2, 0);
        k.rule(4, 0, 2, 0);
        k.rule(5, 3, 5, 4);
        k.rule(5, 0, 4, 0);
        stageAll(k, 0, "01 11", true);
        k.commit();
        isExactly("together", k, 2, "01 10 11");
        isExactly("together", k, 3, "01 11");
        stageAll(k, 0, "01", false);
        k.commit();
        suspectsAre("by way of one another", k, 2, "01 10 11");
        suspectsAre("by way of one another", k, 3, "01 11");
        isExactly("left", k, 2, "11");
        isExactly("left", k, 3, "11");
        suspectsAre("not recursive itself", k, 4, "");
        suspectsAre("only what was taken out of a lower view counts", k, 5, "01 10");
        changes("lower", k, 5, 0, 2, 2, 0);
    }

    private static void pairsThatHoldOneAnother() {
        ViewKeeper k = new ViewKeeper();
        k.rule(2, 0, 3, 0);
        k.rule(3, 0, 2, 0);
        k.rule(3, 0, 1, 0);
        stageAll(k, 1, "24", true);
        due("in", k.commit(), 3);
        stageAll(k, 1, "24", false);
        due("out, though each is the other's reason", k.commit(), 3);
        changes("both", k, 2, 0, 1, 1, 0);
        changes("both", k, 3, 0, 1, 1, 0);
    }

    public static void main(String[] args) {
        newObject();
        ruleForms();
        ruleNumbersAndState();
        ruleRefused();
        ruleFull();
        ruleCycle();
        undoRule();
        stageFacts();
        stageEveryFact();
        commitTransactions();
        commitThroughLayers();
        commitThroughAllRelations();
        abortTransactions();
        hasPairs();
        counts();
        sizes();
        recursiveViews();
        needsRelations();
        rulesThereAre();
        changedRelations();
        suspectPairs();
        suspectsOfAPutInPair();
        suspectsByForm();
        suspectsByBothBodiesAtOnce();
        suspectsAmongSeveralViews();
        pairsThatHoldOneAnother();
        System.out.println(wrong == 0 ? "all " + asked + " answers are as due" : wrong + " answers are not as due");
        if (wrong != 0) System.exit(1);
    }
}
