/** The document's "Terms", first part: literals, facts, rules, pairs, the four tags and their rounds. */
final class TermSentences {
    private static final int BAD = -1, FULL = -3;
    private static final int STRICT = 0, SOFT = 1, BAR = 2;
    private static final int SURE = 0, NEVER = 1, LIKELY = 2, UNLIKELY = 3;
    private static final int A = 0, B = 1, C = 2, D = 3, E = 4, J = 9, OTHER = 10, ALL = (1 << 20) - 1;

    private final Check check;

    private TermSentences(Check check) {
        this.check = check;
    }

    static void run(Check check, Sentences sentences) {
        TermSentences t = new TermSentences(check);
        t.literals(sentences);
        t.rules(sentences);
        t.pairs(sentences);
        t.whatRulesDo(sentences);
        t.tags(sentences);
        t.roundByRound(sentences);
    }

    private void literals(Sentences s) {
        s.test("An object is used for at most 512 calls after it has been made", this::the512thCall);
        s.test("LITERALS 0 .. 9 are the ATOMS a .. j, 10 .. 19 their NOTS (told ~a .. ~j)", this::literalsAsTold);
        s.test("one is THE OTHER of the other", this::theOther);
        s.test("FACTS: LITERALS (none at first; both of an ATOM may be).", this::factsOfBothWays);
    }

    private void rules(Sentences s) {
        s.test("RULES 0, 1, .. as they come (16 at most)", this::sixteenRules);
        s.test("each of a KIND: 0 STRICT, 1 SOFT, 2 BAR", this::kinds);
        s.test("with a HEAD (a LITERAL)", this::heads);
        s.test("a BODY (LITERALS, perhaps none)", this::bodies);
        s.test("EXCEPTIONS (LITERALS, none of a STRICT one)", this::exceptions);
        s.test("a STRENGTH (0 .. 9)", this::strengths);
        s.test("ON (at first) or OFF.", this::onAtFirst);
        s.test("RULES FOR a LITERAL: those ON with that HEAD.", this::rulesForOne);
    }

    private void pairs(Sentences s) {
        s.test("PAIRS (none at first) tell that a RULE is OVER another one.", this::noPairsAtFirst);
        s.test("A RULE is ABOVE another one, if a PAIR tells that it is OVER it;", this::aboveByPair);
        s.test("or, if no PAIR tells of the two either way, if its STRENGTH is greater.", this::aboveByStrength);
    }

    private void whatRulesDo(Sentences s) {
        s.test("A RULE APPLIES, if all of its BODY are LIKELY and all of its EXCEPTIONS UNLIKELY;", this::applies);
        s.test("it FALLS, if one of its BODY is UNLIKELY or one of its EXCEPTIONS LIKELY.", this::falls);
        s.test("FORWARD are STRICT and SOFT ones.", this::forward);
    }

    private void tags(Sentences s) {
        s.test("TAGS of a LITERAL q: 0 SURE, 1 NEVER, 2 LIKELY, 3 UNLIKELY.", this::fourTags);
        s.test("SURE: q is a FACT; or some STRICT RULE FOR q has all of its BODY SURE.", this::sure);
        s.test("NEVER: q is no FACT, and each STRICT RULE FOR q has one of its BODY that is NEVER.", this::never);
        s.test("LIKELY: q is SURE; or: some FORWARD RULE FOR q APPLIES,", this::likelyByOneRule);
        s.test("THE OTHER of q is NEVER, and each RULE FOR THE OTHER of q FALLS,", this::likelyAgainstRules);
        s.test("or some FORWARD RULE FOR q that APPLIES is ABOVE it.", this::likelyByWhoIsAbove);
        s.test("UNLIKELY: q is NEVER, and: each FORWARD RULE FOR q FALLS;", this::unlikelyAllFall);
        s.test("or THE OTHER of q is SURE;", this::unlikelyByTheOther);
        s.test("or some RULE FOR THE OTHER of q APPLIES, and each FORWARD RULE FOR q FALLS or is not ABOVE it.",
            this::unlikelyByARule);
    }

    private void roundByRound(Sentences s) {
        s.test("They come in ROUNDS 1, 2, ..:", this::firstRound);
        s.test("in each all those (not there yet) whose sentence holds by TAGS of ROUNDS ahead of it alone;",
            this::byRoundsAhead);
        s.test("holds by TAGS of ROUNDS ahead of it alone", this::anewWithEachChange);
        s.test("until a ROUND brings none.", this::lastRound);
        s.test("(TAGS that never come are neither so nor otherwise.)", this::neverCome);
    }

    /** The rounds of SURE, NEVER, LIKELY, UNLIKELY as one number's figures. */
    private void rounds(String words, int literal, int due) {
        RuleCourt x = Told.court(words);
        int got = 0;
        for (int tag = SURE; tag <= UNLIKELY; tag++) {
            got = 10 * got + x.tag(literal, tag);
        }
        check.same("rounds of " + literal + " in " + words, got, due);
    }

    private void stateOf(String words, int rule, int due) {
        check.same("state of " + rule + " in " + words, Told.court(words).state(rule), due);
    }

    private void the512thCall() {
        RuleCourt x = new RuleCourt();
        for (int call = 1; call < 512; call++) {
            check.same("call " + call, x.fact(call % 20, 1), call <= 20 ? 0 : 1);
        }
        check.same("call 512", x.count(0), ALL);
        RuleCourt y = new RuleCourt();
        for (int call = 1; call < 512; call++) {
            check.same("another's call " + call, y.key(call % 20), -2);
        }
        check.same("another's call 512", y.tagged(UNLIKELY, 2), ALL);
    }

    private void literalsAsTold() {
        for (int q = 0; q < 20; q++) {
            String told = (q < 10 ? "" : "~") + (char) ('a' + q % 10);
            check.same("bits of " + told, Told.court("!" + told).count(0), 1 << q);
            check.same("told of " + q, Told.rules(Told.court("->" + told)), "->" + told + "*0;");
        }
        check.same("ahead of a", Told.read(new RuleCourt(), "!`"), -1001);
        check.same("behind j", Told.read(new RuleCourt(), "!k"), -1001);
        check.same("ahead of ~a", Told.read(new RuleCourt(), "!~`"), -1002);
        check.same("behind ~j", Told.read(new RuleCourt(), "!~k"), -1002);
        check.same("no figure", Told.read(new RuleCourt(), "!0"), -1001);
    }

    private void theOther() {
        for (int q = 0; q < 20; q++) {
            for (int fact = 0; fact < 20; fact++) {
                RuleCourt x = new RuleCourt();
                x.rule(SOFT, q, 0, 0, 0);
                x.fact(fact, 1);
                boolean isOther = fact == q + 10 || fact == q - 10;
                check.same(q + " with " + fact, x.tag(q, LIKELY), isOther ? 0 : 2);
            }
        }
    }

    private void factsOfBothWays() {
        RuleCourt x = new RuleCourt();
        check.same("none at first", x.count(0), 0);
        x.fact(J, 1);
        x.fact(J + OTHER, 1);
        check.same("both", x.count(0), Told.bits(J, J + OTHER));
        check.same("both SURE", x.tagged(SURE, 1), Told.bits(J, J + OTHER));
        check.same("both LIKELY", x.tagged(LIKELY, 2), Told.bits(J, J + OTHER));
        for (int q = 0; q < 20; q++) {
            x.fact(q, 1);
        }
        check.same("all", x.count(0), ALL);
        check.same("all SURE", x.tagged(SURE, 1), ALL);
    }

    private void sixteenRules() {
        RuleCourt x = new RuleCourt();
        for (int r = 0; r < 16; r++) {
            check.same("how many ahead of " + r, x.count(4), r);
            check.same("number", x.rule(BAR, 0, 0, 0, 0), r);
        }
        check.same("a 17th", x.rule(BAR, 0, 0, 0, 0), FULL);
        check.same("still", x.count(4), 16);
        check.same("the last one", x.ruleOf(15, 0), BAR);
        check.same("no more than these", x.ruleOf(16, 0), BAD);
        x.undo();
        check.same("room again", x.rule(SOFT, 0, 0, 0, 0), 15);
    }

    private void kinds() {
        String[] arrows = {"->", "=>", "~>"};
        for (int kind = STRICT; kind <= BAR; kind++) {
            RuleCourt x = new RuleCourt();
            x.rule(kind, A, 0, 0, 0);
            check.same("kind", x.ruleOf(0, 0), kind);
            check.same("told", Told.rules(x), arrows[kind] + "a*0;");
            check.same("read", Told.court(arrows[kind] + "a").ruleOf(0, 0), kind);
        }
        check.same("below", new RuleCourt().rule(-1, A, 0, 0, 0), BAD);
        check.same("above", new RuleCourt().rule(3, A, 0, 0, 0), BAD);
    }

    private void heads() {
        int[] heads = {0, 9, 10, 19};
        for (int head : heads) {
            RuleCourt x = new RuleCourt();
            check.same("head " + head, x.rule(SOFT, head, 0, 0, 0), 0);
            check.same("head " + head, x.ruleOf(0, 1), head);
        }
        check.same("below", new RuleCourt().rule(SOFT, -1, 0, 0, 0), BAD);
        check.same("above", new RuleCourt().rule(SOFT, 20, 0, 0, 0), BAD);
    }

    private void bodies() {
        int[] bodies = {0, 1, 1 << 19, ALL};
        for (int kind = STRICT; kind <= BAR; kind++) {
            for (int body : bodies) {
                RuleCourt x = new RuleCourt();
                check.same("body " + body, x.rule(kind, A, body, 0, 0), 0);
                check.same("body " + body, x.ruleOf(0, 2), body);
            }
            check.same("one bit too high", new RuleCourt().rule(kind, A, 1 << 20, 0, 0), BAD);
            check.same("a number below 0", new RuleCourt().rule(kind, A, -1, 0, 0), BAD);
            check.same("the sign's bit", new RuleCourt().rule(kind, A, Integer.MIN_VALUE, 0, 0), BAD);
        }
    }

    private void exceptions() {
        int[] some = {1, 1 << 19, ALL};
        for (int exceptions : some) {
            check.same("of a STRICT one", new RuleCourt().rule(STRICT, A, 0, exceptions, 0), BAD);
            for (int kind = SOFT; kind <= BAR; kind++) {
                RuleCourt x = new RuleCourt();
                check.same("of one of kind " + kind, x.rule(kind, A, 0, exceptions, 0), 0);
                check.same("of one of kind " + kind, x.ruleOf(0, 3), exceptions);
            }
        }
        check.same("none of a STRICT one", new RuleCourt().rule(STRICT, A, 0, 0, 0), 0);
        check.same("one bit too high", new RuleCourt().rule(SOFT, A, 0, 1 << 20, 0), BAD);
        check.same("a number below 0", new RuleCourt().rule(SOFT, A, 0, -1, 0), BAD);
    }

    private void strengths() {
        for (int v = 0; v <= 9; v++) {
            RuleCourt x = new RuleCourt();
            check.same("strength " + v, x.rule(SOFT, A, 0, 0, v), 0);
            check.same("strength " + v, x.ruleOf(0, 4), v);
            check.same("told " + v, Told.court("=>a*" + v).ruleOf(0, 4), v);
        }
        check.same("below", new RuleCourt().rule(SOFT, A, 0, 0, -1), BAD);
        check.same("above", new RuleCourt().rule(SOFT, A, 0, 0, 10), BAD);
    }

    private void onAtFirst() {
        RuleCourt x = Told.court("=>a");
        x.rule(SOFT, B, 0, 0, 0);
        check.same("told", x.ruleOf(0, 5), 0);
        check.same("made", x.ruleOf(1, 5), 0);
        x.off(1, 1);
        x.undo();
        x.undo();
        x.rule(SOFT, C, 0, 0, 0);
        check.same("in the place of one that was OFF", x.ruleOf(1, 5), 0);
    }

    private void rulesForOne() {
        RuleCourt x = Told.court("->a;=>a;~>a;a=>b;=>~a");
        check.same("of all kinds", x.rulesFor(A), Told.bits(0, 1, 2));
        check.same("none", x.rulesFor(C), 0);
        x.off(1, 1);
        check.same("one OFF", x.rulesFor(A), Told.bits(0, 2));
        x.off(0, 1);
        x.off(2, 1);
        check.same("all OFF", x.rulesFor(A), 0);
        check.same("all OFF: as if there were none", x.tag(A, NEVER), 1);
        check.same("all OFF: none applies", x.tag(A, LIKELY), 0);
        check.same("all OFF: all fall", x.tag(A, UNLIKELY), 2);
    }

    private void noPairsAtFirst() {
        RuleCourt x = Told.court("=>a*9;=>~a;=>b*5");
        check.same("none", x.count(5), 0);
        for (int r = 0; r < 3; r++) {
            check.same("none of " + r, x.ruleOf(r, 6), 0);
        }
        check.same("none of a new one", new RuleCourt().count(5), 0);
    }

    private void aboveByPair() {
        RuleCourt x = Told.court("=>a;=>b;=>c*9;0>1;0>2");
        check.same("over one as strong and one stronger", x.ruleOf(0, 7), Told.bits(1, 2));
        x.over(0, 1, 0);
        check.same("no more", x.ruleOf(0, 7), Told.bits(2));
        RuleCourt all = new RuleCourt();
        for (int r = 0; r < 16; r++) {
            all.rule(SOFT, 0, 0, 0, r == 0 ? 0 : 9);
        }
        for (int r = 1; r < 16; r++) {
            all.over(0, r, 1);
        }
        check.same("the weakest over all others", all.ruleOf(0, 7), 0xFFFE);
        for (int r = 1; r < 16; r++) {
            check.same("over none " + r, all.ruleOf(r, 7), 0);
        }
    }

    private void aboveByStrength() {
        RuleCourt x = Told.court("=>a*0;=>b*1;=>c*1;=>d*8;=>e*9");
        int[] due = {0, Told.bits(0), Told.bits(0), Told.bits(0, 1, 2), Told.bits(0, 1, 2, 3)};
        for (int r = 0; r < due.length; r++) {
            check.same("as strong is not greater: " + r, x.ruleOf(r, 7), due[r]);
        }
        x.over(3, 4, 1);
        check.same("a pair tells of the two this way", x.ruleOf(3, 7), Told.bits(0, 1, 2, 4));
        check.same("a pair tells of the two that way", x.ruleOf(4, 7), Told.bits(0, 1, 2));
        x.over(3, 4, 0);
        check.same("none tells of them any more", x.ruleOf(4, 7), Told.bits(0, 1, 2, 3));
    }

    private void applies() {
        stateOf("=>a", 0, 1);
        stateOf("~>a", 0, 1);
        stateOf("!a;!b;a,b=>c?d,e", 0, 1);
        stateOf("!a;b=>b;a,b=>c", 1, 0);
        stateOf("b=>b;=>c?d,b", 1, 0);
        RuleCourt x = new RuleCourt();
        for (int q = 0; q < 10; q++) {
            x.fact(q, 1);
        }
        x.rule(SOFT, A, (1 << 10) - 1, ALL ^ (1 << 10) - 1, 0);
        check.same("a full BODY, full EXCEPTIONS", x.state(0), 1);
        x.fact(J, 0);
        check.same("all but the last", x.state(0), 2);
    }

    private void falls() {
        stateOf("a=>b", 0, 2);
        stateOf("!a;!b;a,b,j=>c", 0, 2);
        stateOf("!a;a=>c?a", 0, 2);
        stateOf("!~j;=>c?a,~j", 0, 2);
        stateOf("!a;a=>b;b=>b;b=>c", 2, 1);
        stateOf("b=>b;b=>c?b", 1, 0);
        stateOf("->a", 0, 1);
    }

    private void forward() {
        check.same("STRICT", Told.court("!a;a->b").tag(B, LIKELY), 3);
        check.same("SOFT", Told.court("!a;a=>b").tag(B, LIKELY), 3);
        check.same("no BAR", Told.court("!a;a~>b").tag(B, LIKELY), 0);
        check.same("a BAR alone: all FORWARD ones fall", Told.court("!a;a~>b").tag(B, UNLIKELY), 2);
        check.same("a BAR is above in vain", Told.court("=>b;~>b*9;=>~b*1").tag(B, LIKELY), 0);
        check.same("a BAR is no TEAM", Told.court("->b;=>b;~>b").sides(B, 1), Told.bits(0, 1));
        check.same("a STRICT one is above", Told.court("!a;a=>c;c->b*2;=>~b*1").tag(B, LIKELY), 4);
    }

    private void fourTags() {
        RuleCourt x = Told.court("!a;=>b;c=>c");
        int[][] due = {{1, 0, 2, 0}, {0, 1, 2, 0}, {0, 1, 0, 0}, {0, 1, 0, 2}};
        for (int q = A; q <= D; q++) {
            for (int tag = 0; tag < 4; tag++) {
                check.same("tag " + tag + " of " + q, x.tag(q, tag), due[q][tag]);
            }
        }
        check.same("no tag -1", x.tag(A, -1), BAD);
        check.same("no tag 4", x.tag(A, 4), BAD);
    }

    private void sure() {
        rounds("!j", J, 1020);
        rounds("->j", J, 1020);
        rounds("=>j", J, 120);
        rounds("~>j", J, 102);
        rounds("!a;!b;!c;a,b,c->j", J, 2030);
        rounds("!a;!b;a,b,c->j", J, 203);
        rounds("c->j;!a;a->j", J, 2030);
        rounds("=>a;a->b", B, 230);
        RuleCourt x = Told.court("->j");
        x.off(0, 1);
        check.same("OFF", x.tag(J, SURE), 0);
    }

    private void never() {
        rounds("=>b", A, 102);
        rounds("->a", A, 1020);
        rounds("b->a", A, 203);
        rounds("!b;!c;b,c,j->a", A, 203);
        rounds("b->a;!c;c->a", A, 2030);
        rounds("b->a;c->c;c->a", A, 0);
        rounds("b->a;!a", A, 1020);
        rounds("!b;b=>a", A, 130);
    }

    private void likelyByOneRule() {
        rounds("!a", A, 1020);
        rounds("b=>a;=>a", A, 120);
        rounds("b=>a", A, 103);
        rounds("~>a", A, 102);
        rounds("a=>a", A, 100);
    }

    private void likelyAgainstRules() {
        rounds("=>a;c->~a;c->c", A, 100);
        rounds("=>a;!~a", A, 102);
        rounds("=>a;c=>~a", A, 130);
        rounds("=>a;~>~a?~c;!~c", A, 130);
        rounds("=>a;c=>~a;d~>~a;=>~a?c", A, 103);
        rounds("=>a;c=>~a;c=>c", A, 100);
    }

    private void likelyByWhoIsAbove() {
        rounds("=>a*1;=>~a", A, 120);
        rounds("=>a;=>~a", A, 102);
        rounds("=>a;=>~a*9;0>1", A, 120);
        rounds("=>a;c=>a*9;=>~a*1", A, 103);
        rounds("=>a;~>a*9;=>~a*1", A, 102);
        rounds("=>a*1;=>a*1;=>~a;~>~a", A, 120);
        rounds("=>a*1;=>a*1;=>~a;~>~a*1", A, 102);
    }

    private void unlikelyAllFall() {
        rounds("=>b", A, 102);
        rounds("c=>a;d=>a", A, 103);
        rounds("c=>a;d=>d;d=>a", A, 100);
        rounds("!a", A, 1020);
        rounds("c=>a;b->b;b->a", A, 0);
    }

    private void unlikelyByTheOther() {
        rounds("=>a;!~a", A, 102);
        rounds("=>a*9;->~a", A, 102);
        rounds("=>a;!c;c->~a", A, 103);
        rounds("!a;!~a", A, 1020);
        rounds("=>a;=>a;=>~a;=>~a;0>2;2>1;1>3;3>0;!~a", A, 102);
    }

    private void unlikelyByARule() {
        rounds("=>a;=>~a", A, 102);
        rounds("=>a;~>~a", A, 102);
        rounds("=>a*1;~>~a", A, 120);
        rounds("c=>a*9;=>a;~>~a*1", A, 103);
        rounds("c=>c;c=>a*9;=>a;~>~a*1", A, 100);
        rounds("c=>c;=>a;c=>~a", A, 100);
        rounds("=>a*1;~>~a;~>~a*1", A, 102);
    }

    private void firstRound() {
        RuleCourt x = Told.court("!a;->b;=>c");
        check.same("SURE", x.tagged(SURE, 1), Told.bits(A, B));
        check.same("NEVER", x.tagged(NEVER, 1), ALL ^ Told.bits(A, B));
        check.same("no LIKELY: it takes NEVER of THE OTHER", x.tagged(LIKELY, 1), 0);
        check.same("no UNLIKELY: it takes NEVER", x.tagged(UNLIKELY, 1), 0);
        check.same("LIKELY in the second", x.tagged(LIKELY, 2), Told.bits(A, B, C));
    }

    private void byRoundsAhead() {
        RuleCourt x = Told.court("!a;a->b;b->c;c->d");
        for (int q = A; q <= D; q++) {
            check.same("SURE of " + q, x.tag(q, SURE), q + 1);
            check.same("LIKELY of " + q, x.tag(q, LIKELY), q + 2);
            check.same("it comes once: SURE of " + q, x.tagged(SURE, q + 1), 1 << q);
            check.same("it comes once: LIKELY of " + q, x.tagged(LIKELY, q + 2), 1 << q);
        }
        rounds("d->c;c->b;b->a", A, 405);
        rounds("!a;c=>d;b=>c;a=>b", D, 150);
        rounds("=>a?b;c=>b;d=>c", A, 150);
    }

    /** Nothing of the rounds of another court, or of this one as it was, may count. */
    private void anewWithEachChange() {
        RuleCourt x = Told.court("a=>b;=>c?a;a->d");
        for (int i = 0; i < 3; i++) {
            check.same("without a", x.state(0) * 100 + x.state(1) * 10 + x.state(2), 212);
            check.same("without a", x.tag(B, LIKELY) * 100 + x.tag(C, LIKELY) * 10 + x.tag(D, NEVER), 32);
            x.fact(A, 1);
            check.same("with a", x.state(0) * 100 + x.state(1) * 10 + x.state(2), 121);
            check.same("with a", x.tag(B, LIKELY) * 100 + x.tag(C, LIKELY) * 10 + x.tag(D, NEVER), 300);
            check.same("with a", x.tag(D, SURE), 2);
            x.would(B, A, 0);
            check.same("behind a thought", x.state(0) * 100 + x.state(1) * 10 + x.state(2), 121);
            x.undo();
            check.same("undone", x.tag(B, LIKELY) * 100 + x.tag(C, LIKELY) * 10 + x.tag(D, NEVER), 32);
            x.redo();
            check.same("done again", x.tag(B, LIKELY) * 100 + x.tag(C, LIKELY) * 10 + x.tag(D, NEVER), 300);
            x.fact(A, 0);
        }
        x.fact(A, 1);
        check.same("ahead of begin", x.tag(D, SURE), 2);
        x.begin();
        check.same("behind begin", x.tag(D, SURE) + x.tag(B, LIKELY), 0);
        check.same("behind begin", x.tagged(NEVER, 1), ALL);
    }

    private void lastRound() {
        check.same("of none told", new RuleCourt().count(7), 2);
        RuleCourt longest = Told.court("!a;a->b;b->c;c->d;d->e;e->f;f->g;g->h;h->i;i->j;j->~a;~a->~b");
        check.same("rounds", longest.count(7), 13);
        check.same("the last tag", longest.tag(B + OTHER, SURE), 12);
        check.same("LIKELY of it", longest.tag(B + OTHER, LIKELY), 13);
        check.same("none behind", longest.tagged(LIKELY, 14), 0);
        RuleCourt gap = Told.court("a=>a;b->b");
        check.same("circles bring none", gap.count(7), 2);
        check.same("one SURE after another, nothing else", Told.court("!a;=>b;=>c;=>d;a->b;b->c;c->d").count(7), 4);
    }

    private void neverCome() {
        RuleCourt x = Told.court("e=>e;e=>b;=>c?e;=>d;e=>~d");
        check.same("a BODY neither so nor otherwise", x.state(1), 0);
        check.same("an EXCEPTION neither so nor otherwise", x.state(2), 0);
        int[] missing = {B, C, D, E};
        for (int q : missing) {
            check.same("not LIKELY: " + q, x.tag(q, LIKELY), 0);
            check.same("not UNLIKELY: " + q, x.tag(q, UNLIKELY), 0);
        }
        check.same("which these are", x.count(2), Told.bits(missing));
        rounds("a->b;b->a", A, 0);
        rounds("a->b;b->a", B, 0);
    }
}
