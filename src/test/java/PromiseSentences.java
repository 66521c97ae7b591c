import java.util.function.IntUnaryOperator;

/** The document's promises 1 to 32, sentence by sentence: where numbers begin and end, what is empty, full, refused. */
final class PromiseSentences {
    private static final int BAD = -1, NOT = -2, FULL = -3, STATE = -5, NOTHING = -11, BEYOND = -13, BELOW = -14;
    private static final int MIN = Integer.MIN_VALUE, MAX = Integer.MAX_VALUE;
    private static final int SURE = 0, NEVER = 1, LIKELY = 2, UNLIKELY = 3;
    private static final int A = 0, B = 1, C = 2, D = 3, J = 9, OTHER = 10, ALL = (1 << 20) - 1;
    private static final long NO = Long.MIN_VALUE;

    private final Check check;

    private PromiseSentences(Check check) {
        this.check = check;
    }

    static void run(Check check, Sentences sentences) {
        PromiseSentences t = new PromiseSentences(check);
        t.told(sentences);
        t.there(sentences);
        t.tags(sentences);
        t.thoughts(sentences);
        t.rows(sentences);
    }

    private void told(Sentences s) {
        s.test("`RuleCourt()`: No FACTS, no RULES.", this::newObject);
        s.test("All is as at first, but THE TAPE, THE PAPER, LISTS, THE IMAGE: how many RULES there were.", this::begin);
        s.test("A LITERAL is a FACT (1), or none (0): what it was. BAD.", this::fact);
        s.test("A RULE (body, exceptions as bits): its number.", this::ruleNumber);
        s.test("BAD: also EXCEPTIONS of a STRICT one; FULL: there are 16.", this::ruleRefused);
        s.test("A RULE is OFF (1), or ON (0): what it was. BAD.", this::off);
        s.test("STRENGTH of a RULE becomes v: what it was. BAD.", this::strength);
        s.test("A PAIR tells that a RULE is OVER another one (1), or no more (0): what was.", this::over);
        s.test("BAD: the same, too; STATE: the other way is told (is 1).", this::overRefused);
        s.test("A byte (1 .. 127) comes behind THE TAPE's: how many it has. BAD; FULL.", this::feed);
        s.test("THE TAPE is WORDS: how many STATEMENTS came; the FAULT.", this::reads);
    }

    private void there(Sentences s) {
        s.test("Of a RULE: 0 KIND, 1 HEAD, 2 BODY, 3 EXCEPTIONS (bits), 4 STRENGTH, 5 1: OFF, 6 RULES (bits) it is OVER,"
            + " 7 that it is ABOVE. BAD.", this::ruleOf);
        s.test("RULES (bits) FOR a LITERAL. BAD.", this::rulesFor);
        s.test("FACTS (what 0), CIRCLES (1), MISSING (2), LITERALS with both LIKELY of them and THE OTHER (3), all bits;",
            this::countBits);
        s.test("how many RULES (4), PAIRS (5), TAGS that came (6), ROUNDS that brought some (7), CHANGES that can be"
            + " UNDONE (8), DONE AGAIN (9), bytes on THE TAPE (10), of THE PAPER (11). BAD.", this::countNumbers);
    }

    private void tags(Sentences s) {
        s.test("The ROUND in which a TAG of a LITERAL came: 0: it doesn't. BAD.", this::tag);
        s.test("LITERALS (bits) with a TAG that came in a ROUND (0: in any). BAD.", this::tagged);
        s.test("Whether a RULE APPLIES (1), FALLS (2), both (3), neither (0), by all TAGS that came (OFF ones, too). BAD.",
            this::state);
        s.test("THREATS (what 0), TEAM (1) of a LITERAL, bits. BAD.", this::sides);
        s.test("PROOF of a TAG of a LITERAL: how many TAGS (k -1), the k-th: 100 times its number and the LITERAL.",
            this::proofSteps);
        s.test("BAD: k below -1; NOT: it didn't come, there are not as many.", this::proofRefused);
        s.test("THE PAPER becomes PROOF of a TAG of a LITERAL, printed;", this::printsProofs);
        s.test("or (literal -1) all RULES by numbers, as in WORDS, LITERALS by theirs, * and STRENGTH always, behind each"
            + " a semicolon (the tag does not matter then): how many bytes.", this::printsRules);
        s.test("BAD; NOT: the TAG didn't come.", this::printsRefused);
        s.test("Byte i of THE PAPER. BAD: below 0; NOT: it has not as many.", this::paper);
    }

    private void thoughts(Sentences s) {
        s.test("TAGS (bits) of a LITERAL, were another one a FACT (is 1), or none (0). BAD.", this::would);
        s.test("KEY. BAD; STATE: it is LIKELY; NOT: none.", this::key);
        s.test("HINGES (bits). BAD.", this::hinges);
        s.test("LEAST STRENGTH. BAD; NOT: by none.", this::least);
        s.test("COURTS by lot, n (1 .. 12) of them. BAD.", this::lots);
        s.test("A LIST tells, from place p on, ROUNDS of a TAG of LITERALS 0, 1, ..: the first LITERAL of which it is"
            + " otherwise;", this::judgeOtherwise);
        s.test("NOT: all 20 are so; 100 and how many were looked at: it ends ahead of that.", this::judgeToItsEnd);
        s.test("BAD: list, tag, p below 0; NOTHING.", this::judgeRefused);
    }

    private void rows(Sentences s) {
        s.test("A LIST becomes a row of n ints, all 0: 1.", this::list);
        s.test("BAD: list, n above 24; BELOW.", this::listRefused);
        s.test("Place i of a LIST becomes v: 1. BAD; NOTHING; BEYOND.", this::set);
        s.test("Place i of a LIST. NO: no such LIST, nothing there, no such place.", this::get);
        s.test("The latest CHANGE is UNDONE: how many still can be. STATE: none.", this::undo);
        s.test("The latest UNDONE one is DONE AGAIN: how many still can be. STATE: none.", this::redo);
        s.test("THE IMAGE is kept: how many RULES.", this::image);
        s.test("It is laid back: how many RULES. STATE: there is none.", this::back);
    }

    /** A number that is told from least to most: these two are no BAD ones, all beyond them are. */
    private void goesFrom(String what, int least, int most, IntUnaryOperator call) {
        for (int v = least; v <= most; v++) {
            check.holds(what + " may be " + v, call.applyAsInt(v) != BAD);
        }
        int[] beyond = {least - 1, most + 1, -2, least - 32, most + 32, least + 256, MIN, MIN + most, MAX};
        for (int v : beyond) {
            if (v < least || v > most) {
                check.same(what + " of " + v, call.applyAsInt(v), BAD);
            }
        }
    }

    private static RuleCourt two() {
        return Told.court("!a;a=>b*2;=>~b");
    }

    private void newObject() {
        RuleCourt x = new RuleCourt();
        check.same("facts", x.count(0), 0);
        check.same("rules", x.count(4), 0);
        check.same("no rule 0", x.ruleOf(0, 0), BAD);
        check.same("nothing printed of them", x.prints(-1, 0), 0);
        check.same("NEVER of all", x.tagged(NEVER, 1), ALL);
        check.same("UNLIKELY of all", x.tagged(UNLIKELY, 2), ALL);
        check.same("SURE, LIKELY of none", x.tagged(SURE, 0) + x.tagged(LIKELY, 0), 0);
        check.same("tags", x.count(6), 40);
        check.same("rounds", x.count(7), 2);
    }

    private void begin() {
        RuleCourt x = Told.court("!a;=>b*9;=>c;0>1");
        x.off(0, 1);
        x.image();
        x.undo();
        x.prints(A, SURE);
        x.list(3, 1);
        x.set(3, 0, 5);
        x.feed('!');
        check.same("how many there were", x.begin(), 2);
        for (int what = 0; what <= 5; what++) {
            check.same("count " + what, x.count(what), 0);
        }
        check.same("can be UNDONE", x.undo(), STATE);
        check.same("can be DONE AGAIN", x.redo(), STATE);
        check.same("the tape", x.count(10), 1);
        check.same("the paper", Told.paper(x), "!a;");
        check.same("the list", x.get(3, 0), 5);
        check.same("how many there were now", x.begin(), 0);
        x.rule(1, A, 0, 0, 0);
        x.rule(1, B, 0, 0, 0);
        check.same("ON, over none, above none", x.ruleOf(0, 5) + x.ruleOf(0, 6) + x.ruleOf(0, 7), 0);
        x.off(1, 1);
        x.off(0, 1);
        x.over(1, 0, 1);
        check.same("two, both OFF", x.begin(), 2);
        x.rule(1, A, 0, 0, 0);
        x.rule(1, B, 0, 0, 0);
        check.same("ON, over none", x.ruleOf(0, 5) + x.ruleOf(1, 5) + x.ruleOf(1, 6), 0);
        check.same("of 16", fullOfRules().begin(), 16);
        check.same("the image", x.back(), 2);
        check.same("what it kept", x.ruleOf(0, 5) * 100 + x.ruleOf(0, 4) * 10 + x.ruleOf(0, 6), 192);
    }

    private static RuleCourt fullOfRules() {
        RuleCourt x = new RuleCourt();
        for (int r = 0; r < 16; r++) {
            x.rule(1, J + OTHER, 0, 0, 0);
        }
        return x;
    }

    private void fact() {
        RuleCourt x = new RuleCourt();
        for (int q = 0; q < 20; q++) {
            check.same("none before", x.fact(q, 0), 0);
            check.same("none before", x.fact(q, 1), 0);
            check.same("one before", x.fact(q, 1), 1);
            check.same("it alone", x.count(0), 1 << q);
            check.same("one before", x.fact(q, 0), 1);
            check.same("none before", x.fact(q, 0), 0);
        }
        goesFrom("literal", 0, 19, q -> two().fact(q, 1));
        goesFrom("is", 0, 1, is -> two().fact(A, is));
        x.fact(A, 1);
        check.same("BAD is no answer of what was", x.fact(A, 2), BAD);
        check.same("it stays one", x.count(0), 1);
    }

    private void ruleNumber() {
        RuleCourt x = new RuleCourt();
        check.same("0", x.rule(2, J + OTHER, 1 << 19, 1 << 19 | 1, 9), 0);
        check.same("body", x.ruleOf(0, 2), 1 << 19);
        check.same("exceptions", x.ruleOf(0, 3), 1 << 19 | 1);
        check.same("1", x.rule(0, A, ALL, 0, 0), 1);
        check.same("full body", x.ruleOf(1, 2), ALL);
        x.undo();
        check.same("1 again", x.rule(0, A, 0, 0, 0), 1);
        check.same("empty body", x.ruleOf(1, 2), 0);
        for (int r = 2; r < 16; r++) {
            check.same("number", x.rule(1, A, 0, 0, 0), r);
        }
    }

    private void ruleRefused() {
        goesFrom("kind", 0, 2, kind -> two().rule(kind, A, 0, 0, 0));
        goesFrom("head", 0, 19, head -> two().rule(1, head, 0, 0, 0));
        goesFrom("strength", 0, 9, v -> two().rule(1, A, 0, 0, v));
        int[] beyond = {1 << 20, 1 << 20 | 1, 1 << 30, MIN, MIN | 1, MAX, -1};
        for (int bits : beyond) {
            check.same("body " + bits, two().rule(1, A, bits, 0, 0), BAD);
            check.same("exceptions " + bits, two().rule(1, A, 0, bits, 0), BAD);
            check.same("a STRICT one's body " + bits, two().rule(0, A, bits, 0, 0), BAD);
        }
        for (int q = 0; q < 20; q++) {
            check.same("exceptions of a STRICT one", two().rule(0, A, 0, 1 << q, 0), BAD);
            check.same("exceptions of a BAR", two().rule(2, A, 0, 1 << q, 0), 2);
        }
        RuleCourt x = fullOfRules();
        for (int kind = 0; kind <= 2; kind++) {
            check.same("there are 16", x.rule(kind, A, 0, 0, 0), FULL);
        }
        x.off(3, 1);
        check.same("an OFF one makes no room", x.rule(1, A, 0, 0, 0), FULL);
        check.same("exceptions of a STRICT 17th", x.rule(0, A, 0, 1, 0), BAD);
    }

    private void off() {
        RuleCourt x = fullOfRules();
        int[] ends = {0, 15};
        for (int r : ends) {
            check.same("ON before", x.off(r, 0), 0);
            check.same("ON before", x.off(r, 1), 0);
            check.same("OFF before", x.off(r, 1), 1);
            check.same("it alone", x.rulesFor(J + OTHER), 0xFFFF ^ 1 << r);
            check.same("OFF before", x.off(r, 0), 1);
            check.same("ON again", x.rulesFor(J + OTHER), 0xFFFF);
        }
        goesFrom("one of two", 0, 1, r -> two().off(r, 1));
        goesFrom("one of 16", 0, 15, r -> fullOfRules().off(r, 1));
        goesFrom("is", 0, 1, is -> two().off(0, is));
        check.same("of none", new RuleCourt().off(0, 1), BAD);
    }

    private void strength() {
        RuleCourt x = two();
        check.same("2 before", x.strength(0, 0), 2);
        check.same("0 before", x.strength(0, 9), 0);
        check.same("9 before", x.strength(0, 9), 9);
        check.same("it is", x.ruleOf(0, 4), 9);
        check.same("the other one stays", x.ruleOf(1, 4), 0);
        check.same("BAD changes nothing", x.strength(0, 10), BAD);
        check.same("it is", x.ruleOf(0, 4), 9);
        goesFrom("one of two", 0, 1, r -> two().strength(r, 1));
        goesFrom("one of 16", 0, 15, r -> fullOfRules().strength(r, 1));
        goesFrom("v", 0, 9, v -> two().strength(0, v));
        check.same("of none", new RuleCourt().strength(0, 1), BAD);
    }

    private void over() {
        RuleCourt x = fullOfRules();
        check.same("none before", x.over(15, 0, 0), 0);
        check.same("none before", x.over(15, 0, 1), 0);
        check.same("one before", x.over(15, 0, 1), 1);
        check.same("one pair", x.count(5), 1);
        check.same("one before", x.over(15, 0, 0), 1);
        check.same("none before", x.over(15, 0, 0), 0);
        check.same("no pair", x.count(5), 0);
        check.same("the other way now", x.over(0, 15, 1), 0);
        for (int r = 0; r < 16; r++) {
            for (int other = r + 1; other < 16; other++) {
                x.over(r, other, 1);
            }
        }
        check.same("all that can be", x.count(5), 120);
    }

    private void overRefused() {
        for (int r = 0; r < 16; r++) {
            check.same("the same", fullOfRules().over(r, r, 1), BAD);
            check.same("the same, no more", fullOfRules().over(r, r, 0), BAD);
        }
        RuleCourt x = two();
        x.over(0, 1, 1);
        check.same("the other way", x.over(1, 0, 1), STATE);
        check.same("it is not told", x.ruleOf(1, 6), 0);
        check.same("the other way, no more", x.over(1, 0, 0), 0);
        check.same("the pair stays", x.ruleOf(0, 6), Told.bits(1));
        goesFrom("rule of 16", 0, 14, r -> fullOfRules().over(r, 15, 1));
        goesFrom("other of 16", 1, 15, r -> fullOfRules().over(0, r, 1));
        goesFrom("is", 0, 1, is -> two().over(0, 1, is));
        check.same("rule of two", two().over(2, 0, 1), BAD);
        check.same("other of two", two().over(0, 2, 1), BAD);
        check.same("rule of 16", fullOfRules().over(16, 0, 1), BAD);
        check.same("of none", new RuleCourt().over(0, 1, 0), BAD);
    }

    private void feed() {
        goesFrom("letter", 1, 127, letter -> new RuleCourt().feed(letter));
        RuleCourt x = new RuleCourt();
        for (int n = 1; n <= 120; n++) {
            check.same("how many", x.feed(n), n);
        }
        check.same("full", x.feed(1), FULL);
        check.same("full again", x.feed(127), FULL);
        check.same("BAD", x.feed(0), BAD);
        check.same("BAD", x.feed(128), BAD);
        x.reads();
        check.same("room again", x.feed(127), 1);
    }

    private void reads() {
        check.same("of nothing", new RuleCourt().reads(), -1000);
        check.same("1", Told.read(new RuleCourt(), "!a"), 1);
        check.same("20", Told.read(new RuleCourt(), "!a;!b;!c;!d;!e;!f;!g;!h;!i;!j;!~a;!~b;!~c;!~d;!~e;!~f;!~g;!~h;!~i;!~j"),
            20);
        check.same("a byte's", Told.read(new RuleCourt(), "!a;x"), -1003);
        check.same("a statement's", Told.read(new RuleCourt(), "!a;!a"), -2003);
        RuleCourt x = new RuleCourt();
        Told.feed(x, "!a");
        check.same("behind what was there", x.feed('x'), 3);
        check.same("its fault", x.reads(), -1002);
        check.same("nothing is left of it", Told.read(x, "!b"), 1);
        check.same("b alone", x.count(0), Told.bits(B));
    }

    private void ruleOf() {
        RuleCourt x = Told.court("~a,j~>~j?b,~c*9;=>a;=>b;0>2");
        x.off(0, 1);
        int[] due = {2, 19, Told.bits(J, A + OTHER), Told.bits(B, C + OTHER), 9, 1, Told.bits(2), Told.bits(1, 2)};
        for (int what = 0; what < 8; what++) {
            check.same("what " + what, x.ruleOf(0, what), due[what]);
        }
        int[] least = {1, 0, 0, 0, 0, 0, 0, 0};
        for (int what = 0; what < 8; what++) {
            check.same("what " + what, x.ruleOf(1, what), least[what]);
        }
        goesFrom("what", 0, 7, what -> two().ruleOf(0, what));
        goesFrom("one of two", 0, 1, r -> two().ruleOf(r, 0));
        goesFrom("one of 16", 0, 15, r -> fullOfRules().ruleOf(r, 7));
        check.same("of none", new RuleCourt().ruleOf(0, 0), BAD);
    }

    private void rulesFor() {
        check.same("none", new RuleCourt().rulesFor(A), 0);
        check.same("all 16", fullOfRules().rulesFor(J + OTHER), 0xFFFF);
        check.same("not of its other", fullOfRules().rulesFor(J), 0);
        RuleCourt x = fullOfRules();
        x.off(0, 1);
        x.off(15, 1);
        check.same("but OFF ones", x.rulesFor(J + OTHER), 0x7FFE);
        goesFrom("literal", 0, 19, q -> two().rulesFor(q));
    }

    private void countBits() {
        RuleCourt x = Told.court("!a;!~j;!j;c=>c;=>d;=>e*2;=>f*1;1>2");
        check.same("facts", x.count(0), Told.bits(A, J, J + OTHER));
        check.same("circles", x.count(1), Told.bits(1, 2, 3));
        check.same("missing", x.count(2), Told.bits(C));
        check.same("both", x.count(3), Told.bits(J, J + OTHER));
        x.off(0, 1);
        check.same("none missing", x.count(2), 0);
        x.over(1, 2, 0);
        check.same("no circles", x.count(1), 0);
    }

    private void countNumbers() {
        RuleCourt x = Told.court("!a;a=>b;b=>c;c->d;0>1;1>2");
        // SURE a; NEVER of all but a, d; NEVER d by c; LIKELY a, b, c, d; UNLIKELY of the 16 others.
        int[] due = {3, 2, 1 + 19 + 4 + 16, 5, 6, 0, 0, 0};
        for (int what = 4; what <= 11; what++) {
            check.same("count " + what, x.count(what), due[what - 4]);
        }
        x.undo();
        Told.feed(x, "!b;");
        x.prints(-1, 0);
        int[] then = {3, 1, 40, 5, 5, 1, 3, 21};
        for (int what = 4; what <= 11; what++) {
            check.same("then count " + what, x.count(what), then[what - 4]);
        }
        goesFrom("what", 0, 11, what -> two().count(what));
        check.same("16 rules", fullOfRules().count(4), 16);
        check.same("12 changes of 16", fullOfRules().count(8), 12);
    }

    private void tag() {
        RuleCourt x = Told.court("!a;a->b;c=>c");
        check.same("the first round", x.tag(A, SURE), 1);
        check.same("the next", x.tag(B, SURE), 2);
        check.same("it doesn't", x.tag(A, NEVER), 0);
        check.same("it doesn't", x.tag(C, LIKELY) + x.tag(C, UNLIKELY), 0);
        check.same("of the last literal", x.tag(J + OTHER, UNLIKELY), 2);
        goesFrom("literal", 0, 19, q -> two().tag(q, NEVER));
        goesFrom("tag", 0, 3, tag -> two().tag(A, tag));
    }

    private void tagged() {
        RuleCourt x = Told.court("!a;a->b");
        check.same("in any", x.tagged(SURE, 0), Told.bits(A, B));
        check.same("in 1", x.tagged(SURE, 1), Told.bits(A));
        check.same("in 2", x.tagged(SURE, 2), Told.bits(B));
        check.same("in 3", x.tagged(SURE, 3), 0);
        check.same("what never came is in no round", x.tagged(NEVER, 0), ALL ^ Told.bits(A, B));
        int[] bits = {x.tagged(LIKELY, 1), x.tagged(LIKELY, 2), x.tagged(LIKELY, 3), x.tagged(LIKELY, 4)};
        check.same("each in one round", bits[0] + bits[1] + bits[2] + bits[3], x.tagged(LIKELY, 0));
        goesFrom("tag", 0, 3, tag -> two().tagged(tag, 1));
        check.same("no such number of a round", x.tagged(SURE, -1), BAD);
        check.same("no such number of a round", x.tagged(SURE, MIN), BAD);
    }

    private void state() {
        RuleCourt x = Told.court("!a;a=>b;c=>b;d=>d;=>b?a;a=>b?c;a=>b?a");
        int[] due = {1, 2, 0, 2, 1, 2};
        for (int r = 0; r < due.length; r++) {
            check.same("state " + r, x.state(r), due[r]);
        }
        for (int r = 0; r < due.length; r++) {
            x.off(r, 1);
            check.same("OFF " + r, x.state(r), r == 2 ? 2 : due[r]);
        }
        check.same("by a late tag", Told.court("!a;a=>b;b=>c;c=>d;d=>e").state(3), 1);
        goesFrom("one of two", 0, 1, r -> two().state(r));
        goesFrom("one of 16", 0, 15, r -> fullOfRules().state(r));
        check.same("of none", new RuleCourt().state(0), BAD);
    }

    private void sides() {
        check.same("threats", two().sides(B, 0), 0);
        check.same("team", two().sides(B, 1), Told.bits(0));
        check.same("threats to the NOT", two().sides(B + OTHER, 0), Told.bits(0));
        check.same("team of the NOT", two().sides(B + OTHER, 1), Told.bits(1));
        check.same("all 16", fullOfRules().sides(J, 0), 0xFFFF);
        goesFrom("literal", 0, 19, q -> two().sides(q, 0));
        goesFrom("literal", 0, 19, q -> two().sides(q, 1));
        goesFrom("what", 0, 1, what -> two().sides(A, what));
    }

    private void proofSteps() {
        RuleCourt x = Told.court("!~j;~j=>b");
        check.same("how many", x.proof(B, LIKELY, -1), 4);
        check.same("the first", x.proof(B, LIKELY, 0), 19);
        check.same("the next", x.proof(B, LIKELY, 1), 111);
        check.same("and on", x.proof(B, LIKELY, 2), 219);
        check.same("it itself is the last", x.proof(B, LIKELY, 3), 201);
        check.same("one alone", x.proof(A, NEVER, -1), 1);
        check.same("it", x.proof(A, NEVER, 0), 100);
        check.same("the greatest", x.proof(J, UNLIKELY, x.proof(J, UNLIKELY, -1) - 1), 309);
    }

    private void proofRefused() {
        RuleCourt x = two();
        check.same("the last", x.proof(B, LIKELY, 3), 201);
        check.same("not as many", x.proof(B, LIKELY, 4), NOT);
        check.same("not as many", x.proof(B, LIKELY, MAX), NOT);
        check.same("it didn't come: how many", x.proof(B, SURE, -1), NOT);
        check.same("it didn't come: the first", x.proof(B, SURE, 0), NOT);
        check.same("below -1", x.proof(B, LIKELY, -2), BAD);
        check.same("below -1", x.proof(B, LIKELY, MIN), BAD);
        check.same("below -1, and it didn't come", x.proof(B, SURE, -2), BAD);
        goesFrom("literal", 0, 19, q -> two().proof(q, NEVER, -1));
        goesFrom("tag", 0, 3, tag -> two().proof(A, tag, -1));
    }

    private void printsProofs() {
        RuleCourt x = two();
        check.same("bytes", x.prints(B, LIKELY), 13);
        check.same("paper", Told.paper(x), "!a;#~b;+a;+b;");
        check.same("a shorter one", x.prints(A, SURE), 3);
        check.same("nothing of the longer one", Told.paper(x), "!a;");
        for (int q = 0; q < 20; q++) {
            RuleCourt y = new RuleCourt();
            String told = (q < 10 ? "" : "~") + (char) ('a' + q % 10);
            check.same("bytes of " + told, y.prints(q, UNLIKELY), 2 * told.length() + 4);
            check.same("paper of " + told, Told.paper(y), "#" + told + ";-" + told + ";");
        }
    }

    private void printsRules() {
        check.same("none", new RuleCourt().prints(-1, 0), 0);
        RuleCourt x = Told.court("~a,a->b;=>c?~d,e*3;~>~j");
        String due = "a,~a->b*0;=>c?e,~d*3;~>~j*0;";
        int[] tags = {-1, 0, 3, 4, MIN, MAX};
        for (int tag : tags) {
            check.same("bytes", x.prints(-1, tag), due.length());
            check.same("paper", Told.paper(x), due);
        }
        RuleCourt y = new RuleCourt();
        check.same("read again", Told.read(y, due.substring(0, due.length() - 1)), 3);
        check.same("printed again", Told.rules(y), due);
        RuleCourt most = new RuleCourt();
        for (int r = 0; r < 16; r++) {
            most.rule(2, J + OTHER, ALL, ALL, 9);
        }
        // Twice: 10 literals of 1 byte, 10 of 2, 19 commas; and ~>, ~j, ?, *9 and a semicolon.
        check.same("the most", most.prints(-1, 0), 16 * 106);
        check.same("its last byte", most.paper(16 * 106 - 1), ';');
    }

    private void printsRefused() {
        RuleCourt x = two();
        x.prints(-1, 0);
        String before = Told.paper(x);
        check.same("didn't come", x.prints(A, NEVER), NOT);
        check.same("didn't come", x.prints(B + OTHER, LIKELY), NOT);
        int[] noTags = {-1, 4, MIN, MAX};
        for (int tag : noTags) {
            check.same("a tag of " + tag, x.prints(A, tag), BAD);
        }
        int[] noLiterals = {-2, 20, MIN, MAX};
        for (int q : noLiterals) {
            check.same("a literal of " + q, x.prints(q, SURE), BAD);
        }
        check.same("the paper stays", Told.paper(x), before);
    }

    private void paper() {
        RuleCourt x = two();
        check.same("nothing at first", x.paper(0), NOT);
        check.same("below 0 of nothing", x.paper(-1), BAD);
        x.prints(A, SURE);
        check.same("the first", x.paper(0), '!');
        check.same("the last", x.paper(2), ';');
        check.same("behind it", x.paper(3), NOT);
        check.same("far behind", x.paper(MAX), NOT);
        check.same("below 0", x.paper(-1), BAD);
        check.same("far below 0", x.paper(MIN), BAD);
        x.prints(-1, 0);
        x.begin();
        x.prints(-1, 0);
        check.same("of nothing printed last", x.paper(0), NOT);
    }

    private void would() {
        check.same("a FACT", two().would(J + OTHER, J + OTHER, 1), Told.bits(SURE, LIKELY));
        check.same("none", two().would(A, A, 0), Told.bits(NEVER, UNLIKELY));
        check.same("another one none", two().would(B, A, 0), Told.bits(NEVER, UNLIKELY));
        check.same("as it is", two().would(B, A, 1), Told.bits(NEVER, LIKELY));
        check.same("one that is none stays none", two().would(B, J, 0), Told.bits(NEVER, LIKELY));
        check.same("neither so nor otherwise", Told.court("a->a").would(A, B, 1), 0);
        goesFrom("literal", 0, 19, q -> two().would(q, A, 0));
        goesFrom("fact", 0, 19, q -> two().would(A, q, 0));
        goesFrom("is", 0, 1, is -> two().would(A, B, is));
    }

    private void key() {
        check.same("the least", Told.court("a=>~j").key(J + OTHER), A);
        check.same("the greatest", Told.court("~j=>a").key(A), J + OTHER);
        check.same("a FACT is LIKELY", two().key(A), STATE);
        check.same("it is LIKELY", two().key(B), STATE);
        check.same("none", two().key(C), NOT);
        check.same("none without rules", new RuleCourt().key(J), NOT);
        goesFrom("literal", 0, 19, q -> two().key(q));
    }

    private void hinges() {
        check.same("none", new RuleCourt().hinges(A, SURE), 0);
        check.same("one", two().hinges(B, LIKELY), Told.bits(0));
        check.same("of UNLIKELY", two().hinges(B + OTHER, UNLIKELY), Told.bits(0));
        check.same("of the 16 none alone", fullOfRules().hinges(J + OTHER, LIKELY), 0);
        goesFrom("literal", 0, 19, q -> two().hinges(q, LIKELY));
        goesFrom("tag", 0, 3, tag -> two().hinges(B, tag));
    }

    private void least() {
        check.same("1", two().least(0, B), 1);
        check.same("by all", two().least(1, A), 0);
        check.same("by none", two().least(0, C), NOT);
        check.same("9", Told.court("=>a;=>~a*8").least(0, A), 9);
        check.same("by none", Told.court("=>a;=>~a*9").least(0, A), NOT);
        goesFrom("one of two", 0, 1, r -> two().least(r, A));
        goesFrom("one of 16", 0, 15, r -> fullOfRules().least(r, J + OTHER));
        goesFrom("literal", 0, 19, q -> two().least(0, q));
        check.same("of none", new RuleCourt().least(0, A), BAD);
    }

    private void lots() {
        RuleCourt x = Told.court("->a");
        for (int n = 1; n <= 12; n++) {
            check.same(n + " of them", x.lots(A, SURE, n, n), n);
        }
        goesFrom("n", 1, 12, n -> two().lots(A, SURE, n, 1));
        goesFrom("literal", 0, 19, q -> two().lots(q, SURE, 1, 1));
        goesFrom("tag", 0, 3, tag -> two().lots(A, tag, 1, 1));
        int[] seeds = {MIN, -1, 0, 1, MAX};
        for (int z : seeds) {
            check.same("by any seed", x.lots(A, SURE, 12, z), 12);
        }
    }

    /** A court with a list of SURE's rounds from place p on. */
    private static RuleCourt judged(int p, int n) {
        RuleCourt x = Told.court("!a;a->~j");
        x.list(0, n);
        x.set(0, p, 1);
        x.set(0, p + 19, 2);
        return x;
    }

    private void judgeOtherwise() {
        RuleCourt x = judged(2, 24);
        int[] values = {-1, 3, MIN, MAX};
        for (int q = 0; q < 20; q++) {
            long before = x.get(0, 2 + q);
            for (int v : values) {
                x.set(0, 2 + q, v);
                check.same("otherwise at " + q, x.judge(0, 2, SURE), q);
            }
            x.set(0, 2 + q, (int) before);
        }
        x.set(0, 2 + 7, 9);
        x.set(0, 2 + 12, 9);
        check.same("the first of two", x.judge(0, 2, SURE), 7);
        check.same("of another tag", x.judge(0, 2, NEVER), 0);
        check.same("from another place", x.judge(0, 3, SURE), 0);
        RuleCourt y = new RuleCourt();
        y.list(1, 1);
        check.same("otherwise ahead of the end", y.judge(1, 0, NEVER), 0);
    }

    private void judgeToItsEnd() {
        check.same("all 20 of a row of 20", judged(0, 20).judge(0, 0, SURE), NOT);
        check.same("all 20 of a row of 24", judged(0, 24).judge(0, 0, SURE), NOT);
        check.same("all 20 from place 4 on", judged(4, 24).judge(0, 4, SURE), NOT);
        check.same("19 from place 5 on", judged(5, 24).judge(0, 5, SURE), 119);
        check.same("19", judged(0, 19).judge(0, 0, SURE), 119);
        check.same("1", judged(0, 1).judge(0, 0, SURE), 101);
        check.same("none of a row of none", judged(0, 0).judge(0, 0, SURE), 100);
        check.same("none at its end", judged(0, 24).judge(0, 24, SURE), 100);
        check.same("none behind it", judged(0, 24).judge(0, 25, SURE), 100);
        check.same("none at a place that wraps around", judged(0, 24).judge(0, MAX, SURE), 100);
        check.same("none at a place that wraps around", judged(0, 24).judge(0, MAX - 18, SURE), 100);
    }

    private void judgeRefused() {
        RuleCourt x = new RuleCourt();
        for (int list = 0; list < 4; list++) {
            check.same("nothing", x.judge(list, 0, SURE), NOTHING);
            x.list(list, 0);
            check.same("a row of none", x.judge(list, 0, SURE), 100);
        }
        goesFrom("list", 0, 3, list -> x.judge(list, 0, SURE));
        goesFrom("tag", 0, 3, tag -> x.judge(0, 0, tag));
        check.same("p below 0", x.judge(0, -1, SURE), BAD);
        check.same("p far below 0", x.judge(0, MIN, SURE), BAD);
        check.same("p below 0 of nothing", new RuleCourt().judge(0, -1, SURE), BAD);
    }

    private void list() {
        for (int n = 0; n <= 24; n++) {
            RuleCourt row = new RuleCourt();
            row.list(2, 24);
            for (int i = 0; i < 24; i++) {
                row.set(2, i, 7);
            }
            check.same("a row of " + n, row.list(2, n), 1);
            for (int i = 0; i < n; i++) {
                check.same("0", row.get(2, i), 0);
            }
            check.same("no more places", row.get(2, n), NO);
            row.list(2, 24);
            check.same("nothing of what was", row.get(2, 23) + row.get(2, n % 24) + row.get(2, 0), 0);
        }
        RuleCourt x = new RuleCourt();
        x.list(2, 24);
        check.same("the others hold nothing", x.set(1, 0, 1) + x.set(3, 0, 1), 2 * NOTHING);
    }

    private void listRefused() {
        goesFrom("list", 0, 3, list -> new RuleCourt().list(list, 24));
        check.same("n above 24", new RuleCourt().list(0, 25), BAD);
        check.same("n far above 24", new RuleCourt().list(0, MAX), BAD);
        check.same("n 24", new RuleCourt().list(0, 24), 1);
        check.same("n 0", new RuleCourt().list(0, 0), 1);
        check.same("n below 0", new RuleCourt().list(0, -1), BELOW);
        check.same("n far below 0", new RuleCourt().list(0, MIN), BELOW);
        check.same("n above 24 and no list", new RuleCourt().list(4, 25), BAD);
        check.same("n below 0 and no list", new RuleCourt().list(4, -1), BAD);
        RuleCourt x = new RuleCourt();
        x.list(0, -1);
        x.list(0, 25);
        check.same("it still holds nothing", x.set(0, 0, 1), NOTHING);
    }

    private void set() {
        RuleCourt x = new RuleCourt();
        check.same("nothing", x.set(3, 0, 1), NOTHING);
        x.list(3, 24);
        int[] values = {MIN, -1, 0, 1, MAX};
        for (int v : values) {
            check.same("the first place", x.set(3, 0, v), 1);
            check.same("the last place", x.set(3, 23, v), 1);
            check.same("it is so", x.get(3, 0), v);
            check.same("it is so", x.get(3, 23), v);
        }
        check.same("the places between stay", x.get(3, 1) + x.get(3, 22), 0);
        check.same("behind the last", x.set(3, 24, 1), BEYOND);
        check.same("below the first", x.set(3, -1, 1), BEYOND);
        goesFrom("list", 0, 3, list -> x.set(list, 0, 1));
    }

    private void get() {
        RuleCourt x = new RuleCourt();
        for (int list = -1; list <= 4; list++) {
            check.same("nothing in, or no list " + list, x.get(list, 0), NO);
        }
        x.list(0, 24);
        x.list(3, 0);
        x.set(0, 23, -1);
        check.same("the last", x.get(0, 23), -1);
        check.same("behind the last", x.get(0, 24), NO);
        check.same("below the first", x.get(0, -1), NO);
        check.same("the greatest number", x.get(0, MAX), NO);
        check.same("the least number", x.get(0, MIN), NO);
        check.same("of a row of none", x.get(3, 0), NO);
        check.same("no such list", x.get(MAX, 0), NO);
        check.same("no such list", x.get(MIN, 0), NO);
    }

    private void undo() {
        check.same("none", new RuleCourt().undo(), STATE);
        RuleCourt x = fullOfRules();
        for (int left = 11; left >= 0; left--) {
            check.same("how many still", x.undo(), left);
            check.same("a rule less", x.count(4), left + 4);
        }
        check.same("none any more", x.undo(), STATE);
        check.same("four stay", x.count(4), 4);
        x.begin();
        check.same("none behind begin", x.undo(), STATE);
        RuleCourt y = two();
        check.same("2", y.undo(), 2);
        check.same("the latest", y.count(4), 1);
        check.same("its tags", y.tag(B, LIKELY), 3);
    }

    private void redo() {
        check.same("none", new RuleCourt().redo(), STATE);
        RuleCourt x = fullOfRules();
        check.same("none is undone", x.redo(), STATE);
        for (int i = 0; i < 13; i++) {
            x.undo();
        }
        for (int left = 11; left >= 0; left--) {
            check.same("how many still", x.redo(), left);
            check.same("a rule more", x.count(4), 16 - left);
        }
        check.same("none any more", x.redo(), STATE);
        x.undo();
        x.strength(0, 0);
        check.same("one came behind", x.redo(), STATE);
        x.undo();
        x.begin();
        check.same("none behind begin", x.redo(), STATE);
        RuleCourt y = two();
        y.undo();
        y.undo();
        check.same("1", y.redo(), 1);
        check.same("the latest undone one", y.ruleOf(0, 1), B);
    }

    private void image() {
        check.same("none", new RuleCourt().image(), 0);
        check.same("16", fullOfRules().image(), 16);
        RuleCourt x = two();
        check.same("2", x.image(), 2);
        x.undo();
        check.same("the latest one alone is kept", x.image(), 1);
        check.same("CHANGES stay", x.redo(), 0);
        x.begin();
        check.same("1", x.back(), 1);
        x.fact(D, 1);
        check.same("what comes behind is not in it", x.back() + x.count(0), 2);
    }

    private void back() {
        check.same("none", new RuleCourt().back(), STATE);
        RuleCourt x = fullOfRules();
        check.same("none of a full one", x.back(), STATE);
        x.image();
        x.begin();
        check.same("16", x.back(), 16);
        check.same("again", x.back(), 16);
        x.begin();
        x.image();
        x.rule(1, A, 0, 0, 0);
        check.same("an empty one is one", x.back(), 0);
        check.same("no rules", x.count(4), 0);
        check.same("none to undo", x.undo(), STATE);
    }
}
