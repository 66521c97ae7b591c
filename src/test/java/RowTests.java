/** Promises 26 to 32: rows, changes, the image. */
final class RowTests {
    private static final int BAD = -1, STATE = -5, NOTHING = -11, BEYOND = -13, BELOW = -14;
    private static final int MIN = Integer.MIN_VALUE, MAX = Integer.MAX_VALUE;

    private final Check check;

    private RowTests(Check check) {
        this.check = check;
    }

    static void run(Check check) {
        RowTests tests = new RowTests(check);
        tests.list();
        tests.set();
        tests.get();
        tests.undoEachKind();
        tests.undoTheLatestTwelve();
        tests.redo();
        tests.whatIsNoChange();
        tests.image();
    }

    private void list() {
        RuleCourt x = new RuleCourt();
        check.same("26 list", x.list(0, 24), 1);
        check.same("26 none", x.list(3, 0), 1);
        check.same("26 too long", x.list(0, 25), BAD);
        check.same("26 too long", x.list(0, MAX), BAD);
        check.same("26 below", x.list(0, -1), BELOW);
        check.same("26 below", x.list(0, MIN), BELOW);
        check.same("26 BAD first", x.list(4, -1), BAD);
        check.same("26 no list", x.list(-1, 1), BAD);
        x.set(0, 23, 9);
        check.same("26 refused: it stays", x.get(0, 23), 9);
        x.list(0, 24);
        check.same("26 all 0 again", x.get(0, 23), 0);
        x.set(0, 1, 5);
        x.list(0, 1);
        x.list(0, 2);
        check.same("26 all 0", x.get(0, 1), 0);
    }

    private void set() {
        RuleCourt x = new RuleCourt();
        check.same("27 nothing", x.set(1, 0, 1), NOTHING);
        check.same("27 nothing first", x.set(1, -1, 1), NOTHING);
        x.list(1, 2);
        check.same("27 set", x.set(1, 1, MIN), 1);
        check.same("27 is", x.get(1, 1), MIN);
        check.same("27 beyond", x.set(1, 2, 1), BEYOND);
        check.same("27 beyond", x.set(1, -1, 1), BEYOND);
        check.same("27 beyond", x.set(1, MAX, 1), BEYOND);
        x.list(2, 0);
        check.same("27 beyond an empty row", x.set(2, 0, 1), BEYOND);
        check.same("27 no list", x.set(4, 0, 1), BAD);
        check.same("27 no list", x.set(-1, 9, 1), BAD);
    }

    private void get() {
        RuleCourt x = new RuleCourt();
        check.same("28 nothing there", x.get(0, 0), Long.MIN_VALUE);
        x.list(0, 2);
        x.list(1, 2);
        x.set(0, 0, MAX);
        check.same("28 get", x.get(0, 0), MAX);
        check.same("28 0 at first", x.get(0, 1), 0);
        check.same("28 another list", x.get(1, 0), 0);
        check.same("28 no such place", x.get(0, 2), Long.MIN_VALUE);
        check.same("28 no such place", x.get(0, -1), Long.MIN_VALUE);
        check.same("28 no such place", x.get(0, MIN), Long.MIN_VALUE);
        check.same("28 no such list", x.get(4, 0), Long.MIN_VALUE);
        check.same("28 no such list", x.get(-1, 0), Long.MIN_VALUE);
    }

    private void undoEachKind() {
        RuleCourt x = Told.court("=>a;=>~a");
        x.fact(3, 1);
        x.off(0, 1);
        x.strength(1, 6);
        x.over(0, 1, 1);
        x.rule(2, 5, 1, 2, 3);
        check.same("29 all", x.tag(10, 2), 2);
        check.same("29 undo a rule", x.undo(), 6);
        check.same("29 it is gone", x.count(4), 2);
        check.same("29 undo a pair", x.undo(), 5);
        check.same("29 it is gone", x.ruleOf(0, 6), 0);
        check.same("29 undo a strength", x.undo(), 4);
        check.same("29 as it was", x.ruleOf(1, 4), 0);
        check.same("29 undo off", x.undo(), 3);
        check.same("29 ON", x.ruleOf(0, 5), 0);
        check.same("29 tags too", x.tag(10, 2), 0);
        check.same("29 undo a fact", x.undo(), 2);
        check.same("29 none", x.count(0), 0);
        for (int left = 4; left >= 0; left--) {
            check.same("30 redo", x.redo(), left);
        }
        check.same("30 no more", x.redo(), STATE);
        check.same("30 fact", x.count(0), 8);
        check.same("30 off", x.ruleOf(0, 5), 1);
        check.same("30 strength", x.ruleOf(1, 4), 6);
        check.same("30 pair", x.ruleOf(0, 6), 2);
        check.same("30 rule", Told.rules(x), "=>a*0;=>~a*6;a~>f?b*3;");
        check.same("30 tags too", x.tag(10, 2), 2);
    }

    private void undoTheLatestTwelve() {
        RuleCourt x = new RuleCourt();
        for (int q = 0; q < 15; q++) {
            x.fact(q, 1);
            check.same("29 can be undone", x.count(8), Math.min(12, q + 1));
        }
        for (int left = 11; left >= 0; left--) {
            check.same("29 undo", x.undo(), left);
        }
        check.same("29 no more", x.undo(), STATE);
        check.same("29 what stays", x.count(0), 7);
        check.same("29 all can be done again", x.count(9), 12);
        for (int left = 11; left >= 0; left--) {
            check.same("30 redo", x.redo(), left);
        }
        check.same("30 all", x.count(0), (1 << 15) - 1);
        check.same("30 no more", x.redo(), STATE);
    }

    private void redo() {
        RuleCourt x = Told.court("!a;!b;!c");
        x.undo();
        x.undo();
        check.same("30 redo", x.redo(), 1);
        x.fact(9, 1);
        check.same("30 none behind a new change", x.redo(), STATE);
        check.same("30 what there is", x.count(0), Told.bits(0, 1, 9));
        check.same("29 three", x.count(8), 3);
        x.undo();
        x.fact(20, 1);
        x.rule(3, 0, 0, 0, 0);
        x.over(0, 0, 1);
        check.same("30 refused ones do not count", x.redo(), 0);
        x.undo();
        x.fact(0, 1);
        check.same("30 one that changed nothing counts", x.redo(), STATE);
    }

    private void whatIsNoChange() {
        RuleCourt x = Told.court("=>a;=>~a");
        x.undo();
        x.feed('!');
        x.list(0, 3);
        x.set(0, 0, 1);
        x.prints(-1, 0);
        x.image();
        check.same("29 none of these", x.count(8) * 10 + x.count(9), 11);
        x.redo();
        x.off(1, 0);
        x.strength(1, 0);
        x.over(0, 1, 0);
        x.fact(4, 0);
        check.same("29 but these", x.count(8), 6);
    }

    private void image() {
        RuleCourt x = new RuleCourt();
        check.same("32 none", x.back(), STATE);
        Told.read(x, "!a;a=>b*2;=>~b;1>0");
        x.off(1, 1);
        check.same("31 image", x.image(), 2);
        int undoable = x.count(8);
        check.same("31 changes stay", undoable, 5);
        x.fact(0, 0);
        x.off(1, 0);
        x.strength(0, 9);
        x.over(1, 0, 0);
        x.rule(0, 3, 0, 0, 0);
        x.undo();
        check.same("32 back", x.back(), 2);
        check.same("32 facts", x.count(0), 1);
        check.same("32 OFF", x.ruleOf(1, 5), 1);
        check.same("32 pairs", x.ruleOf(1, 6), 1);
        check.same("32 rules", Told.rules(x), "a=>b*2;=>~b*0;");
        check.same("32 tags", x.tag(1, 2), 3);
        check.same("32 no changes", x.undo(), STATE);
        check.same("32 none again", x.redo(), STATE);
        x.fact(7, 1);
        check.same("32 one to undo", x.undo(), 0);
        check.same("32 as laid back", x.count(0), 1);
        x.rule(1, 1, 0, 0, 0);
        check.same("32 back again", x.back(), 2);
        check.same("31 another image", x.image() + x.begin(), 4);
        x.image();
        check.same("32 an empty one", x.back(), 0);
    }
}
