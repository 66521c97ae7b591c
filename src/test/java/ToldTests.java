/** Promises 1 to 9: what is told. */
final class ToldTests {
    private static final int BAD = -1, FULL = -3, STATE = -5;
    private static final int MIN = Integer.MIN_VALUE, MAX = Integer.MAX_VALUE;

    private final Check check;

    private ToldTests(Check check) {
        this.check = check;
    }

    static void run(Check check) {
        ToldTests tests = new ToldTests(check);
        tests.newObject();
        tests.begin();
        tests.fact();
        tests.rule();
        tests.off();
        tests.strength();
        tests.over();
        tests.feed();
        tests.readsWords();
        tests.readsFaultsOfBytes();
        tests.readsAFullTape();
        tests.readsFaultsOfStatements();
        tests.readsAllOrNothing();
    }

    private void newObject() {
        RuleCourt x = new RuleCourt();
        for (int what = 0; what <= 11; what++) {
            int due = what == 6 ? 40 : what == 7 ? 2 : 0;
            check.same("1 new count " + what, x.count(what), due);
        }
        check.same("1 new rule", x.ruleOf(0, 0), BAD);
        check.same("1 new paper", x.paper(0), -2);
        check.same("1 new back", x.back(), STATE);
        check.same("1 new undo", x.undo(), STATE);
        check.same("1 new redo", x.redo(), STATE);
        for (int list = 0; list < 4; list++) {
            check.same("1 new list", x.set(list, 0, 1), -11);
        }
        check.same("1 NO", RuleCourt.NO, Long.MIN_VALUE);
        check.same("1 constants", 1000 * RuleCourt.BAD + 100 * RuleCourt.NOT + 10 * RuleCourt.FULL + RuleCourt.STATE,
            -1000 - 200 - 30 - 5);
    }

    private void begin() {
        RuleCourt x = Told.court("!a;a=>b;a=>~b*3;0>1");
        x.prints(-1, 0);
        x.feed('!');
        x.list(2, 3);
        x.set(2, 1, 77);
        x.image();
        x.fact(5, 1);
        x.undo();
        check.same("2 begin", x.begin(), 2);
        int[] dues = {0, 0, 0, 0, 0, 0, 40, 2, 0, 0, 1, 15};
        for (int what = 0; what <= 11; what++) {
            check.same("2 count " + what + " after begin", x.count(what), dues[what]);
        }
        check.same("2 list stays", x.get(2, 1), 77);
        check.same("2 paper stays", x.paper(0), 'a');
        check.same("2 nothing to redo", x.redo(), STATE);
        check.same("2 nothing to undo", x.undo(), STATE);
        check.same("2 rules from 0 again", x.rule(1, 4, 0, 0, 0), 0);
        x.rule(1, 14, 0, 0, 0);
        check.same("2 no pair is left", x.ruleOf(0, 6), 0);
        check.same("2 nothing is OFF", x.ruleOf(0, 5), 0);
        x.feed('b');
        check.same("2 tape goes on", x.reads(), 1);
        check.same("2 image stays", x.back(), 2);
        check.same("2 begin of a new one", new RuleCourt().begin(), 0);
    }

    private void fact() {
        RuleCourt x = new RuleCourt();
        check.same("3 fact", x.fact(0, 1), 0);
        check.same("3 fact again", x.fact(0, 1), 1);
        check.same("3 its other too", x.fact(10, 1), 0);
        check.same("3 both", x.count(0), Told.bits(0, 10));
        check.same("3 last literal", x.fact(19, 1), 0);
        check.same("3 no more", x.fact(0, 0), 1);
        check.same("3 no more again", x.fact(0, 0), 0);
        check.same("3 facts", x.count(0), Told.bits(10, 19));
        int changes = x.count(8);
        int[] wrong = {-1, 20, MIN, MAX, 32};
        for (int q : wrong) {
            check.same("3 wrong literal", x.fact(q, 1), BAD);
        }
        check.same("3 wrong is", x.fact(0, 2), BAD);
        check.same("3 wrong is", x.fact(0, -1), BAD);
        check.same("3 refused is no change", x.count(8), changes);
    }

    private void rule() {
        RuleCourt x = new RuleCourt();
        int[][] wrong = {{-1, 0, 0, 0, 0}, {3, 0, 0, 0, 0}, {1, -1, 0, 0, 0}, {1, 20, 0, 0, 0}, {1, 0, -1, 0, 0},
            {1, 0, 1 << 20, 0, 0}, {1, 0, 0, -1, 0}, {1, 0, 0, 1 << 20, 0}, {1, 0, 0, MIN, 0}, {1, 0, MAX, 0, 0},
            {1, 0, 0, 0, -1}, {1, 0, 0, 0, 10}, {0, 0, 0, 1, 0}};
        for (int[] w : wrong) {
            check.same("4 wrong", x.rule(w[0], w[1], w[2], w[3], w[4]), BAD);
        }
        check.same("4 refused", x.count(4) + x.count(8), 0);
        int all = (1 << 20) - 1;
        check.same("4 strict", x.rule(0, 19, all, 0, 9), 0);
        check.same("4 soft", x.rule(1, 0, 0, all, 0), 1);
        check.same("4 bar", x.rule(2, 10, 3, 4, 5), 2);
        int[] due = {2, 10, 3, 4, 5, 0, 0};
        for (int what = 0; what < due.length; what++) {
            check.same("4 as told " + what, x.ruleOf(2, what), due[what]);
        }
        for (int r = 3; r < 16; r++) {
            check.same("4 number", x.rule(1, r, 0, 0, 0), r);
        }
        check.same("4 full", x.rule(1, 0, 0, 0, 0), FULL);
        check.same("4 BAD first", x.rule(1, 20, 0, 0, 0), BAD);
        check.same("4 sixteen", x.count(4), 16);
    }

    private void off() {
        RuleCourt x = Told.court("=>a;=>b");
        check.same("5 off", x.off(1, 1), 0);
        check.same("5 off again", x.off(1, 1), 1);
        check.same("5 is off", x.ruleOf(1, 5), 1);
        check.same("5 without it", x.tag(1, 2), 0);
        check.same("5 on", x.off(1, 0), 1);
        check.same("5 on again", x.off(1, 0), 0);
        check.same("5 with it", x.tag(1, 2), 2);
        int[] wrong = {-1, 2, 16, MIN, MAX};
        for (int r : wrong) {
            check.same("5 wrong rule", x.off(r, 1), BAD);
        }
        check.same("5 wrong is", x.off(0, 2), BAD);
        check.same("5 wrong is", x.off(0, -1), BAD);
    }

    private void strength() {
        RuleCourt x = Told.court("=>a*4;=>~a");
        check.same("6 strength", x.strength(0, 9), 4);
        check.same("6 again", x.strength(0, 0), 9);
        check.same("6 is", x.ruleOf(0, 4), 0);
        check.same("6 not above", x.ruleOf(0, 7), 0);
        check.same("6 wrong v", x.strength(0, 10), BAD);
        check.same("6 wrong v", x.strength(0, -1), BAD);
        check.same("6 wrong rule", x.strength(2, 1), BAD);
        check.same("6 wrong rule", x.strength(-1, 1), BAD);
        check.same("6 wrong rule", x.strength(MIN, 1), BAD);
    }

    private void over() {
        RuleCourt x = Told.court("=>a;=>~a*5;=>b");
        check.same("7 over", x.over(0, 1, 1), 0);
        check.same("7 again", x.over(0, 1, 1), 1);
        check.same("7 one pair", x.count(5), 1);
        check.same("7 other way", x.over(1, 0, 1), STATE);
        check.same("7 other way no more", x.over(1, 0, 0), 0);
        check.same("7 stays", x.ruleOf(0, 6), 2);
        check.same("7 no more", x.over(0, 1, 0), 1);
        check.same("7 no more again", x.over(0, 1, 0), 0);
        check.same("7 other way now", x.over(1, 0, 1), 0);
        check.same("7 the same", x.over(1, 1, 1), BAD);
        check.same("7 the same, none", x.over(1, 1, 0), BAD);
        int[][] wrong = {{-1, 0, 1}, {0, -1, 1}, {3, 0, 1}, {0, 3, 1}, {0, 2, 2}, {0, 2, -1}, {MAX, 0, 1}, {0, MIN, 1}};
        for (int[] w : wrong) {
            check.same("7 wrong", x.over(w[0], w[1], w[2]), BAD);
        }
    }

    private void feed() {
        RuleCourt x = new RuleCourt();
        int[] wrong = {0, -1, 128, MIN, MAX};
        for (int letter : wrong) {
            check.same("8 wrong", x.feed(letter), BAD);
        }
        check.same("8 least", x.feed(1), 1);
        for (int n = 2; n <= 120; n++) {
            check.same("8 feed", x.feed(127), n);
        }
        check.same("8 full", x.feed('a'), FULL);
        check.same("8 BAD first", x.feed(0), BAD);
        check.same("8 bytes", x.count(10), 120);
        check.same("8 read as a fault", x.reads(), -1000);
        check.same("8 empty then", x.count(10), 0);
    }

    private void readsWords() {
        String[][] told = {
            {"=>a", "=>a*0;"}, {"->~j", "->~j*0;"}, {"~>c", "~>c*0;"}, {"~a~>~b", "~a~>~b*0;"},
            {"b,a,~a,b,a=>c", "a,b,~a=>c*0;"}, {"a=>b?~c,~c,d", "a=>b?d,~c*0;"}, {"a~>b?j*9", "a~>b?j*9;"},
            {"a->b*7;c->d", "a->b*7;c->d*0;"}, {"~a,~j->j", "~a,~j->j*0;"}, {"~>~a?~a", "~>~a?~a*0;"}};
        for (String[] t : told) {
            check.same("9 rules of " + t[0], Told.rules(Told.court(t[0])), t[1]);
        }
        RuleCourt x = new RuleCourt();
        check.same("9 statements", Told.read(x, "!a;!~a;=>b;=>~b;01>0;=>c;2>00"), 7);
        check.same("9 facts", x.count(0), Told.bits(0, 10));
        check.same("9 pairs", x.ruleOf(1, 6) * 100 + x.ruleOf(2, 6), 101);
        check.same("9 changes", x.count(8), 7);
        check.same("9 tape", x.count(10), 0);
        StringBuilder rules = new StringBuilder("=>a");
        for (int r = 1; r < 16; r++) {
            rules.append(";=>a");
        }
        x = Told.court(rules.toString());
        check.same("9 two figures", Told.read(x, "15>10;10>11"), 2);
        check.same("9 full", Told.read(x, "!a;=>a"), -2003);
        check.same("9 full: nothing came", x.count(0), 0);
        check.same("9 no such rule", Told.read(x, "15>16"), -2000);
        check.same("9 no such rule", Told.read(x, "!b;99>15"), -2003);
    }

    private void readsFaultsOfBytes() {
        Object[][] faults = {
            {"", 0}, {";", 0}, {"a", 1}, {"~", 1}, {"!", 1}, {"!~", 2}, {"!a;", 3}, {"!k", 1}, {"!a,b", 2}, {"! a", 1},
            {"!~~a", 2}, {"!a*1", 2}, {"~~a=>b", 1}, {"a~b=>c", 2}, {"a~", 2}, {"a~>", 3}, {"a,~>b", 3}, {"a,=>b", 2},
            {"a,,b=>c", 2}, {",a=>b", 0}, {"a=b", 2}, {"a>b", 1}, {"=>", 2}, {"=>;", 2}, {"=>a?", 4}, {"=>a?*1", 4},
            {"=>a?b,", 6}, {"=>a?b,*", 6}, {"=>a*", 4}, {"=>a*x", 4}, {"=>a*12", 5}, {"=>a*1?b", 5}, {"=>a,b", 3},
            {"=>a?b?c", 5}, {"->a->b", 3}, {"1", 1}, {"12", 2}, {"123", 2}, {"1>", 2}, {"1>a", 2}, {"1>2>3", 3},
            {"1>23;", 5}, {"1>234", 4}, {">1", 0}, {"*1", 0}, {"?a", 0}, {"A=>b", 0}, {"j=>k", 3}, {"`", 0}, {"/>1", 0},
            {":>1", 0}, {"1:", 1}, {"!a;;!b", 3}, {"!a !b", 2}, {"~>~", 3}, {"=>a;b", 5}, {"!a;!a;x", 6}, {"-a", 1},
            {"~-a", 1}, {"a-", 2}, {"a=>b\n", 4}};
        for (Object[] f : faults) {
            RuleCourt x = new RuleCourt();
            check.same("9 fault of " + f[0], Told.read(x, (String) f[0]), -1000 - (Integer) f[1]);
            check.same("9 nothing of " + f[0], x.count(0) + x.count(4) + x.count(8) + x.count(10), 0);
        }
    }

    private void readsAFullTape() {
        StringBuilder statements = new StringBuilder("->a;->a;");
        for (int i = 0; i < 37; i++) {
            statements.append("!a;");
        }
        String most = statements.toString();
        check.same("9 ends too early at its end", Told.read(new RuleCourt(), most + "~"), -1120);
        check.same("9 a letter at its end", Told.read(new RuleCourt(), most + "a"), -1120);
        check.same("9 no letter at its end", Told.read(new RuleCourt(), most + "k"), -1119);
        check.same("9 full of a body", Told.read(new RuleCourt(), "a,".repeat(60)), -1120);
        check.same("9 full of literals", Told.read(new RuleCourt(), "a,".repeat(58) + "a=>b"), 1);
        check.same("9 most statements", Told.read(new RuleCourt(), "!a;".repeat(39) + "!a"), -2003);
        check.same("9 full of exceptions", Told.read(new RuleCourt(), "a=>b?" + "c,".repeat(56) + "c*9"), 1);
    }

    private void readsFaultsOfStatements() {
        Object[][] faults = {
            {"!a;!a", 3}, {"!b", 0}, {"!a;!~b;!~b", 7}, {"a->b?c", 0}, {"!a;->b?~c*1", 3}, {"0>0", 0}, {"2>0", 0},
            {"0>2", 0}, {"=>a;0>3", 4}, {"=>a;2>1;1>2", 8}, {"=>a;2>1;2>1", 8}, {"0>1", 0}, {"1>0", 0}, {"00>01", 0},
            {"!a;1>1;x>", -1}};
        for (Object[] f : faults) {
            RuleCourt x = Told.court("!b;=>c;=>~c;0>1");
            int place = (Integer) f[1];
            check.same("9 fault of " + f[0], Told.read(x, (String) f[0]), place < 0 ? -1007 : -2000 - place);
            check.same("9 facts after " + f[0], x.count(0), 2);
            check.same("9 rules after " + f[0], x.count(4) * 10 + x.count(5), 21);
            check.same("9 changes after " + f[0], x.count(8), 4);
        }
    }

    private void readsAllOrNothing() {
        RuleCourt x = Told.court("!a;=>b");
        x.undo();
        check.same("9 one to redo", x.count(9), 1);
        check.same("9 fault", Told.read(x, "!c;!a"), -2003);
        check.same("9 still one to redo", x.count(9), 1);
        check.same("9 fault of a byte", Told.read(x, "!c;"), -1003);
        check.same("9 still one to undo", x.count(8), 1);
        check.same("9 done again", x.redo(), 0);
        check.same("9 a rule that came just ahead", Told.read(x, "=>~b;0>1;1>2"), -2009);
        check.same("9 with the rule it tells of", Told.read(x, "=>~b;0>1;=>c;1>2"), 4);
        check.same("9 each can be undone", x.count(8), 6);
        x.undo();
        check.same("9 the last statement alone", x.count(5) * 10 + x.count(4), 13);
    }
}
