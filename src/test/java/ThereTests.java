/** Promises 10 to 12: what there is. */
final class ThereTests {
    private static final int BAD = -1;

    private final Check check;

    private ThereTests(Check check) {
        this.check = check;
    }

    static void run(Check check) {
        ThereTests tests = new ThereTests(check);
        tests.ruleOf();
        tests.above();
        tests.rulesFor();
        tests.circles();
        tests.bitsCounted();
        tests.numbersCounted();
    }

    private void ruleOf() {
        RuleCourt x = Told.court("a,~b~>~j?c,~d*8;=>a");
        x.off(0, 1);
        int[] due = {2, 19, Told.bits(0, 11), Told.bits(2, 13), 8, 1, 0, 2};
        for (int what = 0; what < due.length; what++) {
            check.same("10 what " + what, x.ruleOf(0, what), due[what]);
        }
        check.same("10 wrong what", x.ruleOf(0, 8), BAD);
        check.same("10 wrong what", x.ruleOf(0, -1), BAD);
        check.same("10 wrong rule", x.ruleOf(2, 0), BAD);
        check.same("10 wrong rule", x.ruleOf(-1, 0), BAD);
        check.same("10 wrong rule", x.ruleOf(Integer.MAX_VALUE, 0), BAD);
    }

    private void above() {
        RuleCourt x = Told.court("=>a;=>b*5;=>c*3;=>d*5;0>1");
        check.same("10 over", x.ruleOf(0, 6), Told.bits(1));
        check.same("10 above by its pair alone", x.ruleOf(0, 7), Told.bits(1));
        check.same("10 not above one that is over it", x.ruleOf(1, 7), Told.bits(2));
        check.same("10 above by strength", x.ruleOf(3, 7), Told.bits(0, 2));
        check.same("10 above the weakest", x.ruleOf(2, 7), Told.bits(0));
        x.over(0, 1, 0);
        check.same("10 by strength again", x.ruleOf(1, 7), Told.bits(0, 2));
        x.over(1, 3, 1);
        check.same("10 same strength, by a pair", x.ruleOf(1, 7), Told.bits(0, 2, 3));
    }

    private void rulesFor() {
        RuleCourt x = Told.court("=>a;~>a;->a;=>~a;b=>a");
        check.same("11 of all kinds", x.rulesFor(0), Told.bits(0, 1, 2, 4));
        check.same("11 of the other", x.rulesFor(10), Told.bits(3));
        check.same("11 none", x.rulesFor(1), 0);
        x.off(1, 1);
        check.same("11 only ON", x.rulesFor(0), Told.bits(0, 2, 4));
        x.off(1, 0);
        check.same("11 ON again", x.rulesFor(0), Told.bits(0, 1, 2, 4));
        check.same("11 wrong", x.rulesFor(20), BAD);
        check.same("11 wrong", x.rulesFor(-1), BAD);
    }

    private void circles() {
        RuleCourt x = Told.court("=>a;=>b*5;=>c*3;=>d*9;0>1");
        check.same("12 a circle of pairs and strengths", x.count(1), Told.bits(0, 1, 2));
        x.off(2, 1);
        check.same("12 OFF ones too", x.count(1), Told.bits(0, 1, 2));
        x.over(2, 3, 1);
        check.same("12 the strongest comes in", x.count(1), Told.bits(0, 1, 2, 3));
        x.strength(1, 0);
        x.strength(2, 0);
        check.same("12 none", Told.court("=>a;=>b*5;0>1").count(1), 0);
        x = Told.court("=>a;=>b;=>c;=>d;=>e;0>1;1>2;2>0;3>0;2>4");
        check.same("12 neither who leads in nor out", x.count(1), Told.bits(0, 1, 2));
    }

    private void bitsCounted() {
        RuleCourt x = Told.court("!a;!~a;a=>b;b=>c;d=>d;~d=>~d");
        check.same("12 facts", x.count(0), Told.bits(0, 10));
        check.same("12 missing", x.count(2), Told.bits(3, 13));
        check.same("12 both likely", x.count(3), Told.bits(0, 10));
        check.same("12 both likely by a circle, none of them sure",
            Told.court("=>a;=>a;=>~a;=>~a;0>2;2>1;1>3;3>0").count(3), Told.bits(0, 10));
        check.same("12 none missing", new RuleCourt().count(2), 0);
    }

    private void numbersCounted() {
        RuleCourt x = Told.court("!a;a=>b;b=>c;0>1");
        check.same("12 rules", x.count(4), 2);
        check.same("12 pairs", x.count(5), 1);
        // SURE a; NEVER of the 19 others; LIKELY a, b, c; UNLIKELY of the 17 others.
        check.same("12 tags", x.count(6), 1 + 19 + 3 + 17);
        check.same("12 rounds", x.count(7), 4);
        check.same("12 a round that brings SURE alone", Told.court("!a;=>b;=>c;a->b;b->c").count(7), 3);
        check.same("12 changes", x.count(8), 4);
        x.undo();
        x.undo();
        check.same("12 changes", x.count(8) * 10 + x.count(9), 22);
        x.feed('x');
        check.same("12 tape", x.count(10), 1);
        x.prints(-1, 0);
        check.same("12 paper", x.count(11), 7);
        check.same("12 wrong", x.count(12), BAD);
        check.same("12 wrong", x.count(-1), BAD);
        check.same("12 wrong", x.count(Integer.MIN_VALUE), BAD);
    }
}
