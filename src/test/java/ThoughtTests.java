/** Promises 20 to 25: in thought. */
final class ThoughtTests {
    private static final int BAD = -1, NOT = -2, STATE = -5;
    private static final int MIN = Integer.MIN_VALUE, MAX = Integer.MAX_VALUE;
    private static final int SURE = 0, NEVER = 1, LIKELY = 2, UNLIKELY = 3;

    private final Check check;

    private ThoughtTests(Check check) {
        this.check = check;
    }

    static void run(Check check) {
        ThoughtTests tests = new ThoughtTests(check);
        tests.would();
        tests.key();
        tests.hinges();
        tests.least();
        tests.lots();
        tests.judge();
        tests.nothingIsChanged();
    }

    private void would() {
        RuleCourt x = Told.court("!a;a=>b;c=>~b*1");
        check.same("20 as it is", x.would(1, 0, 1), Told.bits(NEVER, LIKELY));
        check.same("20 without a", x.would(1, 0, 0), Told.bits(NEVER, UNLIKELY));
        check.same("20 with c", x.would(1, 2, 1), Told.bits(NEVER, UNLIKELY));
        check.same("20 with ~b", x.would(1, 11, 1), Told.bits(NEVER, UNLIKELY));
        check.same("20 itself a fact", x.would(1, 1, 1), Told.bits(SURE, LIKELY));
        check.same("20 itself none", x.would(0, 0, 0), Told.bits(NEVER, UNLIKELY));
        check.same("20 neither so nor otherwise", Told.court("d=>d").would(3, 0, 1), Told.bits(NEVER));
        int[][] wrong = {{-1, 0, 0}, {20, 0, 0}, {0, -1, 0}, {0, 20, 0}, {0, 1, 2}, {0, 1, -1}, {MIN, 0, 0}, {0, MAX, 0}};
        for (int[] w : wrong) {
            check.same("20 wrong", x.would(w[0], w[1], w[2]), BAD);
        }
    }

    private void key() {
        check.same("21 the one that lacks", Told.court("!a;a,b=>c").key(2), 1);
        check.same("21 the least", Told.court("e=>c;d=>c").key(2), 3);
        check.same("21 not itself", new RuleCourt().key(0), NOT);
        check.same("21 none", Told.court("a,b=>c").key(2), NOT);
        check.same("21 the other of a fact", Told.court("!a;~a=>b").key(1), 10);
        check.same("21 no fact", Told.court("!a;a=>b;=>~b;c=>b*1").key(1), 2);
        check.same("21 by an exception's end", Told.court("=>b;=>~b?c;=>~b?d").key(1), NOT);
        check.same("21 by an exception", Told.court("=>b;=>~b?~e").key(1), 14);
        RuleCourt x = Told.court("!a;a=>b");
        check.same("21 likely", x.key(1), STATE);
        check.same("21 likely fact", x.key(0), STATE);
        int[] wrong = {-1, 20, MIN, MAX};
        for (int q : wrong) {
            check.same("21 wrong", x.key(q), BAD);
        }
    }

    private void hinges() {
        RuleCourt x = Told.court("!a;!b;a=>c;b=>~c");
        check.same("22 came not, would", x.hinges(2, LIKELY), Told.bits(1));
        check.same("22 came, would not", x.hinges(2, UNLIKELY), Told.bits(1));
        check.same("22 on neither", x.hinges(2, NEVER), 0);
        x.off(1, 1);
        check.same("22 no OFF one", x.hinges(2, LIKELY), Told.bits(0));
        check.same("22 two roads", Told.court("!a;a=>b;a->b").hinges(1, LIKELY), 0);
        check.same("22 a chain", Told.court("!a;a=>b;b=>c;=>d").hinges(2, LIKELY), Told.bits(0, 1));
        check.same("22 of NEVER", Told.court("!a;a->b;->c").hinges(1, NEVER), Told.bits(0));
        check.same("22 of a circle", Told.court("a=>a").hinges(0, UNLIKELY), Told.bits(0));
        int[][] wrong = {{-1, 0}, {20, 0}, {0, 4}, {0, -1}};
        for (int[] w : wrong) {
            check.same("22 wrong", x.hinges(w[0], w[1]), BAD);
        }
    }

    private void least() {
        check.same("23 above 0", Told.court("=>a*5;=>~a").least(0, 0), 1);
        check.same("23 above 8", Told.court("=>a;=>~a*8").least(0, 0), 9);
        check.same("23 by none", Told.court("=>a;=>~a*9").least(0, 0), NOT);
        check.same("23 by its pair", Told.court("=>a*7;=>~a*9;0>1").least(0, 0), 0);
        check.same("23 by none", Told.court("=>a*7;=>~a;1>0").least(0, 0), NOT);
        check.same("23 another's weakness", Told.court("=>a*3;=>~a*9").least(1, 0), 0);
        check.same("23 one that does not matter", Told.court("!a;=>b").least(0, 0), 0);
        RuleCourt x = Told.court("=>a;=>~a");
        x.off(0, 1);
        check.same("23 OFF", x.least(0, 0), NOT);
        int[][] wrong = {{-1, 0}, {2, 0}, {0, -1}, {0, 20}, {MAX, 0}, {0, MIN}};
        for (int[] w : wrong) {
            check.same("23 wrong", x.least(w[0], w[1]), BAD);
        }
    }

    /** How often a literal is drawn, by the words of a DRAW. */
    private int drawn(int literal, int n, int z) {
        int times = 0;
        for (int i = 0; i < n; i++) {
            for (int atom = 0; atom < 10; atom++) {
                z = z * 1103515245 + 12345;
                int draw = (int) ((z & 0x7fffffffL) / 65536 % 3);
                if (draw < 2 && atom + 10 * draw == literal) {
                    times++;
                }
            }
        }
        return times;
    }

    private void lots() {
        RuleCourt x = Told.court("!a;!b;!~c;a=>d;a->e");
        int[] seeds = {0, 1, 7, -5, MIN, MAX, 123456789};
        for (int z : seeds) {
            for (int q = 0; q < 20; q++) {
                int from = q == 4 ? 0 : q;
                if (q != 4) {
                    check.same("24 drawn " + q + " by " + z, x.lots(q, SURE, 12, z), drawn(from, 12, z));
                }
            }
            check.same("24 one court", x.lots(9, SURE, 1, z), drawn(9, 1, z));
            check.same("24 its other way", x.lots(9, NEVER, 12, z), 12 - drawn(9, 12, z));
        }
        check.same("24 by a rule", Told.court("~j=>~j;=>b").lots(1, UNLIKELY, 12, 3), drawn(11, 12, 3));
        int[][] wrong = {{-1, 0, 1}, {20, 0, 1}, {0, 4, 1}, {0, -1, 1}, {0, 0, 0}, {0, 0, 13}, {0, 0, MIN}, {0, 0, MAX}};
        for (int[] w : wrong) {
            check.same("24 wrong", x.lots(w[0], w[1], w[2], 1), BAD);
        }
    }

    private void judge() {
        RuleCourt x = Told.court("!a;a->b");
        x.list(0, 22);
        x.set(0, 2, 1);
        x.set(0, 3, 2);
        check.same("25 all are so", x.judge(0, 2, SURE), NOT);
        check.same("25 otherwise at once", x.judge(0, 1, SURE), 0);
        check.same("25 otherwise at b", x.judge(0, 3, SURE), 0);
        x.set(0, 3, 3);
        check.same("25 another round", x.judge(0, 2, SURE), 1);
        x.set(0, 3, 2);
        x.set(0, 21, 1);
        check.same("25 otherwise at the last", x.judge(0, 2, SURE), 19);
        x.list(1, 3);
        x.set(1, 1, 1);
        x.set(1, 2, 2);
        check.same("25 it ends", x.judge(1, 1, SURE), 102);
        check.same("25 otherwise ahead of the end", x.judge(1, 2, SURE), 0);
        check.same("25 at its end", x.judge(1, 3, SURE), 100);
        check.same("25 far behind", x.judge(1, MAX, SURE), 100);
        x.list(2, 0);
        check.same("25 an empty row", x.judge(2, 0, SURE), 100);
        check.same("25 nothing", x.judge(3, 0, SURE), -11);
        int[][] wrong = {{-1, 0, 0}, {4, 0, 0}, {0, -1, 0}, {0, 0, 4}, {0, 0, -1}, {3, -1, 0}, {3, 0, 4}, {0, MIN, 0}};
        for (int[] w : wrong) {
            check.same("25 wrong", x.judge(w[0], w[1], w[2]), BAD);
        }
    }

    private void nothingIsChanged() {
        RuleCourt x = Told.court("!a;a,c=>b;=>~b*2;d=>d;1>0");
        x.off(2, 1);
        x.undo();
        String rules = Told.rules(x);
        for (int q = 0; q < 20; q++) {
            x.would(q, 2, 1);
            x.key(q);
            x.hinges(q, LIKELY);
            x.least(0, q);
            x.lots(q, LIKELY, 2, 5);
        }
        check.same("20-24 the rules stay", Told.rules(x), rules);
        check.same("20-24 the facts stay", x.count(0), 1);
        check.same("20-24 the pairs stay", x.count(5), 1);
        check.same("20-24 the changes stay", x.count(8) * 10 + x.count(9), 51);
        check.same("20-24 the tags stay", x.tagged(LIKELY, 0), Told.bits(0, 11));
        check.same("20-24 none is OFF", x.ruleOf(0, 5) + x.ruleOf(1, 5) + x.ruleOf(2, 5), 0);
    }
}
