/** Promises 13 to 19: tags, teams, proofs, the paper. */
final class TagTests {
    private static final int BAD = -1, NOT = -2;
    private static final int SURE = 0, NEVER = 1, LIKELY = 2, UNLIKELY = 3;
    private static final int A = 0, B = 1, C = 2, D = 3, OTHER = 10;

    private final Check check;

    private TagTests(Check check) {
        this.check = check;
    }

    static void run(Check check) {
        TagTests tests = new TagTests(check);
        tests.sureAndNever();
        tests.likely();
        tests.unlikely();
        tests.teams();
        tests.circles();
        tests.wrongTags();
        tests.tagged();
        tests.state();
        tests.sides();
        tests.proof();
        tests.proofsOfSureAndNever();
        tests.proofsOfLikely();
        tests.proofsOfUnlikely();
        tests.prints();
        tests.longPaper();
        tests.paper();
    }

    /** The rounds of SURE, NEVER, LIKELY, UNLIKELY as one number's figures. */
    private void rounds(String words, int literal, int due) {
        RuleCourt x = Told.court(words);
        int got = 0;
        for (int tag = SURE; tag <= UNLIKELY; tag++) {
            got = 10 * got + x.tag(literal, tag);
        }
        check.same("13 rounds of " + literal + " in " + words, got, due);
    }

    private void sureAndNever() {
        rounds("!a;a->b;b->c", A, 1020);
        rounds("!a;a->b;b->c", C, 3040);
        rounds("!a;a->b;b->c", D, 102);
        rounds("a->b;b->c", C, 304);
        rounds("->a", A, 1020);
        rounds("!a;a,b->c", C, 203);
        rounds("!a;!b;a,b->c", C, 2030);
        rounds("a->b;!c;c->b", B, 2030);
        rounds("!b;a->b", B, 1020);
        rounds("a=>b;!a", B, 130);
        rounds("!a;!~a", A, 1020);
        rounds("!a;!~a", A + OTHER, 1020);
        rounds("a->b;b->a", A, 0);
    }

    private void likely() {
        rounds("=>a", A, 120);
        rounds("!a;a=>b?c", B, 130);
        rounds("!a;!c;a=>b?c", B, 103);
        rounds("!a;a=>b;!~b", B, 102);
        rounds("!a;a=>b;=>~b?a", B, 130);
        rounds("!a;a=>b*1;=>~b", B, 130);
        rounds("!a;a=>b*1;=>~b*1", B, 102);
        rounds("!a;a=>b;=>~b*9;0>1", B, 130);
        rounds("!a;a=>b;~>~b", B, 102);
        rounds("~>a", A, 102);
        rounds("=>a;a->b;=>~b", B, 203);
        rounds("=>a;a->b*1;=>~b", B, 230);
    }

    private void unlikely() {
        rounds("a=>b", B, 103);
        rounds("c,a=>b;!c", B, 103);
        rounds("=>b;=>~b", B, 102);
        rounds("=>b;=>~b", B + OTHER, 102);
        rounds("!a;!b;a=>c;b=>~c;1>0", C, 103);
        rounds("!a;!b;a=>c;b=>~c;1>0", C + OTHER, 130);
        rounds("=>b;->~b", B, 102);
        rounds("->b;=>~b", B, 1020);
        rounds("->b;=>~b", B + OTHER, 102);
        rounds("c=>b*1;=>~b", B, 103);
        rounds("c=>b*1;=>~b;c=>c", B, 100);
    }

    private void teams() {
        String two = "!a;!b;a=>d;b=>d;a=>~d;b=>~d;0>2;1>3";
        rounds(two, D, 130);
        rounds(two, D + OTHER, 103);
        rounds("!a;!b;a=>d;b=>d;a=>~d;b=>~d;0>2", D, 103);
        rounds("!a;!b;a=>d;b=>d;a=>~d;b=>~d;0>2;3>1", D, 103);
        rounds("!a;!b;a=>d;b~>d;a=>~d;0>2;1>2", D, 130);
        rounds("!a;!b;a=>d;b~>d;a=>~d;1>2", D, 103);
        rounds("!a;a=>d;c=>d;a=>~d;1>2", D, 103);
    }

    private void circles() {
        rounds("a=>a", A, 100);
        rounds("a=>a;~a=>~a", A + OTHER, 100);
        rounds("~b=>a;~a=>b", A, 103);
        rounds("=>b?a;=>a?b", A, 100);
        rounds("=>a?a", A, 100);
        rounds("=>a?~a", A, 130);
        rounds("=>a;=>a;=>~a;=>~a;0>2;2>1;1>3;3>0", A, 120);
        rounds("=>a;=>a;=>~a;=>~a;0>2;2>1;1>3;3>0", A + OTHER, 120);
        rounds("!a;=>b;=>c;=>d;a->b;b->c;c->d", D, 4020);
    }

    private void wrongTags() {
        RuleCourt x = Told.court("!a");
        int[][] wrong = {{-1, 0}, {20, 0}, {0, -1}, {0, 4}, {Integer.MIN_VALUE, 0}, {0, Integer.MAX_VALUE}};
        for (int[] w : wrong) {
            check.same("13 wrong", x.tag(w[0], w[1]), BAD);
            check.same("17 wrong", x.proof(w[0], w[1], 0), BAD);
        }
    }

    private void tagged() {
        RuleCourt x = Told.court("!a;a->b;b=>c");
        check.same("14 any", x.tagged(SURE, 0), Told.bits(A, B));
        check.same("14 round 1", x.tagged(SURE, 1), Told.bits(A));
        check.same("14 round 2", x.tagged(SURE, 2), Told.bits(B));
        check.same("14 likely 3", x.tagged(LIKELY, 3), Told.bits(B));
        check.same("14 likely 4", x.tagged(LIKELY, 4), Told.bits(C));
        check.same("14 no such round", x.tagged(LIKELY, 5), 0);
        check.same("14 no such round", x.tagged(LIKELY, Integer.MAX_VALUE), 0);
        check.same("14 wrong tag", x.tagged(4, 0), BAD);
        check.same("14 wrong tag", x.tagged(-1, 0), BAD);
        check.same("14 wrong round", x.tagged(0, -1), BAD);
    }

    private void state() {
        RuleCourt x = Told.court("!a;a=>b;c=>d;e=>e;e=>f;=>g?e;~>h?a");
        int[] due = {1, 2, 0, 0, 0, 2};
        for (int r = 0; r < due.length; r++) {
            check.same("15 rule " + r, x.state(r), due[r]);
        }
        x.off(0, 1);
        check.same("15 OFF ones too", x.state(0), 1);
        check.same("15 wrong", x.state(6), BAD);
        check.same("15 wrong", x.state(-1), BAD);
        check.same("15 wrong", x.state(Integer.MIN_VALUE), BAD);
    }

    private void sides() {
        RuleCourt x = Told.court("!a;!b;a=>d;b=>d;a=>~d;b=>~d;0>2;1>3;c=>~d;~>~d*1;c=>d");
        check.same("16 threats", x.sides(D, 0), Told.bits(5));
        check.same("16 team", x.sides(D, 1), Told.bits(0, 1));
        check.same("16 threats to the other", x.sides(D + OTHER, 0), Told.bits(0, 1));
        check.same("16 team without a bar", x.sides(D + OTHER, 1), Told.bits(2, 3));
        x.off(5, 1);
        check.same("16 OFF is no threat", x.sides(D, 0), 0);
        x.off(0, 1);
        check.same("16 OFF is in no team", x.sides(D, 1), Told.bits(1));
        check.same("16 its loss leaves a threat", x.sides(D, 0), Told.bits(2));
        x = Told.court("e=>e;e=>a;=>~a");
        check.same("16 neither falls nor applies: a threat", x.sides(A + OTHER, 0), Told.bits(1));
        check.same("16 and in no team", x.sides(A, 1), 0);
        int[][] wrong = {{-1, 0}, {20, 1}, {0, 2}, {0, -1}};
        for (int[] w : wrong) {
            check.same("16 wrong", x.sides(w[0], w[1]), BAD);
        }
    }

    private void proof() {
        RuleCourt x = Told.court("!a;a=>~b");
        check.same("17 how many", x.proof(B + OTHER, LIKELY, -1), 4);
        int[] due = {0, 101, 200, 211, NOT};
        for (int k = 0; k < due.length; k++) {
            check.same("17 step " + k, x.proof(B + OTHER, LIKELY, k), due[k]);
        }
        check.same("17 far behind", x.proof(B + OTHER, LIKELY, Integer.MAX_VALUE), NOT);
        check.same("17 k below -1", x.proof(B + OTHER, LIKELY, -2), BAD);
        check.same("17 k below -1, came not", x.proof(B, LIKELY, -2), BAD);
        check.same("17 came not", x.proof(B, LIKELY, -1), NOT);
        check.same("17 came not", x.proof(B, LIKELY, 0), NOT);
    }

    private void proven(String words, int literal, int tag, String due) {
        check.same("18 proof in " + words, Told.proof(Told.court(words), literal, tag), due);
    }

    private void proofsOfSureAndNever() {
        proven("!a", A, SURE, "!a;");
        proven("!b;b->b", B, SURE, "!b;");
        proven("!a;!b;a->c;b->c", C, SURE, "!a;!c;");
        proven("!b;a->c;b->c", C, SURE, "!b;!c;");
        proven("!a;a->b;b->c;a->d;d->c", C, SURE, "!a;!b;!c;");
        proven("!b;b->d;d->c;b->c", C, SURE, "!b;!c;");
        proven("!b;!a;a,~c,b->~d;->~c", D + OTHER, SURE, "!a;!b;!~c;!~d;");
        proven("->a", A, SURE, "!a;");
        proven("=>a", A, NEVER, "#a;");
        proven("a->b;c->b", B, NEVER, "#a;#c;#b;");
        proven("a,b->c", C, NEVER, "#a;#c;");
        proven("b->a;a,c->d", D, NEVER, "#c;#d;");
        proven("!a;a,c->b", B, NEVER, "#c;#b;");
        proven("!a;!b;a=>c;b->c", C, SURE, "!b;!c;");
        proven("a=>c;b->c", C, NEVER, "#b;#c;");
    }

    private void proofsOfLikely() {
        proven("!a", A, LIKELY, "!a;+a;");
        proven("!a;a=>b;a->b", B, LIKELY, "!a;!b;+b;");
        proven("!a;a=>d;a->b;b->c;c->d", D, LIKELY, "!a;#~d;+a;+d;");
        proven("!a;a=>b;b=>d;a=>d", D, LIKELY, "!a;#~d;+a;+d;");
        proven("!a;a=>b?c,~d", B, LIKELY, "!a;#c;#~b;#~d;+a;-c;-~d;+b;");
        proven("!a;!b;a=>d;b=>d;a=>~d;b=>~d;0>2;1>3", D, LIKELY, "!a;!b;#~d;+a;+b;+d;");
        proven("!a;a=>b;c,e=>~b", B, LIKELY, "!a;#c;#~b;+a;-c;+b;");
        proven("!a;a=>b;~>~b?a,c", B, LIKELY, "!a;#~b;+a;+b;");
        proven("!a;a=>b*1;=>~b", B, LIKELY, "!a;#~b;+a;+b;");
        proven("=>b;c=>~b", B, LIKELY, "#c;#~b;-c;+b;");
        proven("!a;=>~b;=>b;a=>b*1;=>b*2", B, LIKELY, "#~b;+b;");
        proven("!a;!b;a=>c*1;b=>c*1;=>~c", C, LIKELY, "!a;#~c;+a;+c;");
        proven("!a;!~b;a=>c?b;=>b", C, LIKELY, "!a;!~b;#b;#~c;+a;-b;+c;");
        proven("=>a;=>a;=>~a;=>~a;0>2;2>1;1>3;3>0", A, LIKELY, "#~a;+a;");
    }

    private void proofsOfUnlikely() {
        proven("=>j", A, UNLIKELY, "#a;-a;");
        proven("c=>b;d=>b", B, UNLIKELY, "#b;#c;#d;-c;-d;-b;");
        proven("!~b;!a;a=>b", B, UNLIKELY, "!~b;#b;-b;");
        proven("!a;a=>b;~>~b", B, UNLIKELY, "#b;-b;");
        proven("!c;=>b;c~>~b", B, UNLIKELY, "!c;#b;+c;-b;");
        proven("!c;!a;a=>b*1;c=>~b;=>b?c;2>1;1>0", B, UNLIKELY, "!c;#b;+c;-b;");
        proven("!c;d=>b*9;=>b;c,~e=>~b;~e=>~e;=>~e*9", B, UNLIKELY, "!c;#b;#d;#e;+c;+~e;-d;-b;");
        proven("d=>b*9;=>b;~>~b;2>0", B, UNLIKELY, "#b;-b;");
        proven("!c;=>a;c=>~a;e~>a*5", A, UNLIKELY, "!c;#a;+c;-a;");
        proven("!c;d=>b*9;e=>b*9;=>b;c=>~b", B, UNLIKELY, "!c;#b;#d;#e;+c;-d;-e;-b;");
        proven("=>a;=>b?a", B, UNLIKELY, "#b;#~a;+a;-b;");
        proven("=>a;=>b?a;c=>b?a", B, UNLIKELY, "#b;#c;#~a;+a;-c;-b;");
    }

    private void prints() {
        RuleCourt x = Told.court("!a;~b,a~>c?~d,b*3;->~j;~>a");
        String rules = "a,~b~>c?b,~d*3;->~j*0;~>a*0;";
        x.off(1, 1);
        check.same("18 rules, OFF ones too", Told.rules(x), rules);
        check.same("18 the tag does not matter", x.prints(-1, 99), rules.length());
        check.same("18 the tag does not matter", x.prints(-1, Integer.MIN_VALUE), rules.length());
        check.same("18 came not", x.prints(B, SURE), NOT);
        check.same("18 wrong literal", x.prints(-2, 0), BAD);
        check.same("18 wrong literal", x.prints(20, 0), BAD);
        check.same("18 wrong tag", x.prints(0, 4), BAD);
        check.same("18 wrong tag", x.prints(0, -1), BAD);
        check.same("18 the paper stays", Told.paper(x), rules);
        check.same("18 how many bytes", x.prints(A, LIKELY), 6);
        check.same("18 shorter", Told.paper(x), "!a;+a;");
        check.same("18 no rules", new RuleCourt().prints(-1, 0), 0);
        x.begin();
        x.prints(-1, 0);
        check.same("18 empty", x.paper(0), NOT);
    }

    private void longPaper() {
        RuleCourt x = new RuleCourt();
        int all = (1 << 20) - 1;
        for (int r = 0; r < 16; r++) {
            x.rule(1, 19, all, all, 9);
        }
        // Each: 10 literals of 1 byte, 10 of 2, 19 commas, twice; => and ~j, ? and *9;
        check.same("18 the longest", x.prints(-1, 0), 16 * (2 * 49 + 4 + 4));
        check.same("18 its last byte", x.paper(16 * 106 - 1), ';');
        check.same("18 behind it", x.paper(16 * 106), NOT);
    }

    private void paper() {
        RuleCourt x = Told.court("=>~b*7");
        check.same("19 nothing at first", x.paper(0), NOT);
        x.prints(-1, 0);
        String due = "=>~b*7;";
        for (int i = 0; i < due.length(); i++) {
            check.same("19 byte " + i, x.paper(i), due.charAt(i));
        }
        check.same("19 behind", x.paper(7), NOT);
        check.same("19 far behind", x.paper(Integer.MAX_VALUE), NOT);
        check.same("19 below 0", x.paper(-1), BAD);
        check.same("19 below 0", x.paper(Integer.MIN_VALUE), BAD);
    }
}
