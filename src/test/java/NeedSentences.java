/** The document's "Terms", second part: what tags need, proofs, sides, circles, what is missing, and in thought. */
final class NeedSentences {
    private static final int NOT = -2, STATE = -5;
    private static final int SURE = 0, NEVER = 1, LIKELY = 2, UNLIKELY = 3;
    private static final int A = 0, B = 1, C = 2, D = 3, E = 4, J = 9, OTHER = 10, ALL = (1 << 20) - 1;

    private final Check check;

    private NeedSentences(Check check) {
        this.check = check;
    }

    static void run(Check check, Sentences sentences) {
        NeedSentences t = new NeedSentences(check);
        t.needs(sentences);
        t.proofs(sentences);
        t.sides(sentences);
        t.thoughts(sentences);
        t.courtsByLot(sentences);
    }

    private void needs(Sentences s) {
        s.test("A TAG that came in a ROUND NEEDS TAGS of ROUNDS ahead of it (these alone count here;", this::aheadAlone);
        s.test("RULES by numbers, LITERALS by theirs)", this::byNumbers);
        s.test("SURE: of a FACT none;", this::sureOfAFact);
        s.test("else SURE of all of the BODY of the first STRICT RULE FOR q that has them.", this::sureByARule);
        s.test("NEVER: of each STRICT RULE FOR q NEVER of the first of its BODY that is.", this::never);
        s.test("LIKELY: SURE q, if that came;", this::likelyBySure);
        s.test("else FORCE of the first FORWARD RULE FOR q that APPLIES; NEVER of THE OTHER;", this::likelyByForce);
        s.test("and of each RULE FOR THE OTHER: if it FALLS its FALL,", this::likelyByFalls);
        s.test("else FORCE of the first FORWARD RULE FOR q that APPLIES and is ABOVE it.", this::likelyByAbove);
        s.test("UNLIKELY: NEVER q; and the first of these that holds:", this::unlikelyFirstThatHolds);
        s.test("of each FORWARD RULE FOR q, if all FALL, its FALL;", this::unlikelyByFalls);
        s.test("SURE of THE OTHER;", this::unlikelyBySure);
        s.test("FORCE of the first RULE FOR THE OTHER that APPLIES and as told is not beaten,", this::unlikelyByForce);
        s.test("and the FALL of each FORWARD RULE FOR q that is ABOVE it.", this::unlikelyByFallsAbove);
        s.test("FORCE of a RULE: LIKELY of all of its BODY, UNLIKELY of all of its EXCEPTIONS.", this::force);
        s.test("FALL: UNLIKELY of the first of its BODY that is;", this::fallOfABody);
        s.test("without such a one LIKELY of the first of its EXCEPTIONS that is.", this::fallByAnException);
    }

    private void proofs(Sentences s) {
        s.test("PROOF of a TAG: it, all that it NEEDS, all that these NEED, and so on, each once;", this::eachOnce);
        s.test("by ROUNDS, then by TAGS' numbers, then LITERALS.", this::orderOfProofs);
        s.test("Printed: ! SURE, # NEVER, + LIKELY, - UNLIKELY, the LITERAL, a semicolon.", this::marks);
    }

    private void sides(Sentences s) {
        s.test("THREATS to q: RULES FOR THE OTHER that do not FALL and that no FORWARD RULE FOR q that APPLIES is ABOVE"
            + " (by all TAGS that came).", this::threats);
        s.test("TEAM of q: FORWARD RULES FOR q that APPLY.", this::team);
        s.test("CIRCLES: RULES (ON or OFF) that are ABOVE one that is ABOVE one .. that is ABOVE them.", this::circles);
        s.test("MISSING: LITERALS of which neither LIKELY nor UNLIKELY came.", this::missing);
    }

    private void thoughts(Sentences s) {
        s.test("In thought (nothing is changed):", this::nothingIsChanged);
        s.test("were it a FACT, q were LIKELY.", this::thoughtsFollowChanges);
        s.test("KEY to q: the least LITERAL, no FACT and not q, by which, were it a FACT, q were LIKELY.", this::key);
        s.test("HINGES of a TAG of a LITERAL: RULES that are ON without which, OFF alone, it came where it doesn't, or"
            + " didn't where it does.", this::hinges);
        s.test("LEAST STRENGTH of a RULE for q: the least by which q were LIKELY.", this::least);
    }

    private void courtsByLot(Sentences s) {
        s.test("COURTS by lot with a seed z: n times no FACTS but those drawn:", this::noFactsButDrawn);
        s.test("of ATOMS in order a DRAW below 3: 0 it is a FACT, 1 its NOT, 2 none:", this::drawnInOrder);
        s.test("how many times a TAG of q comes.", this::howManyTimes);
        s.test("A DRAW below m: z becomes z times 1103515245 plus 12345 (an int);", this::seedsWrapAround);
        s.test("(z without its sign's bit over 65536, cut) modulo m.", this::seedsWithSigns);
    }

    private void proven(String words, int literal, int tag, String due) {
        check.same("proof in " + words, Told.proof(Told.court(words), literal, tag), due);
    }

    private void aheadAlone() {
        proven("!a;a=>d;d=>c;a=>c", C, LIKELY, "!a;#~c;+a;+c;");
        proven("!a;a->d;d->c;a->c", C, SURE, "!a;!c;");
        proven("b->a;a,c->d", D, NEVER, "#c;#d;");
        proven("!a;a=>b;a->c;c->b", B, LIKELY, "!a;#~b;+a;+b;");
        proven("c->b;!~b;a->b;=>b", B, UNLIKELY, "!~b;#a;#c;#b;-b;");
        proven("=>b;!c;=>~b;c->~b", B, UNLIKELY, "#b;-b;");
        // As soon as it is brought it needs no more: what came in the same round does not count.
        proven("!a;a=>d;d=>~b*5;a=>b;e=>b;a=>~b*1", B, UNLIKELY, "!a;#b;+a;-b;");
    }

    private void byNumbers() {
        proven("!a;!b;b=>c;a=>c", C, LIKELY, "!b;#~c;+b;+c;");
        proven("!a;!b;b->c;a->c", C, SURE, "!b;!c;");
        proven("~j,b,a->c", C, NEVER, "#a;#c;");
        proven("~j,~a=>c", C, UNLIKELY, "#c;#~a;-~a;-c;");
        proven("!~j;!a;=>c?~j,a", C, UNLIKELY, "!a;#c;+a;-c;");
        proven("!a;!b;=>c;b~>~c;a=>~c", C, UNLIKELY, "!b;#c;+b;-c;");
    }

    private void sureOfAFact() {
        proven("!a;!b;a->b", B, SURE, "!b;");
        proven("->b;!b", B, SURE, "!b;");
    }

    private void sureByARule() {
        proven("->b", B, SURE, "!b;");
        proven("!a;!~c;a,~c->b", B, SURE, "!a;!~c;!b;");
        proven("!a;d->b;a->b", B, SURE, "!a;!b;");
        proven("!a;a=>b;->c;c->b", B, SURE, "!c;!b;");
        RuleCourt x = Told.court("!a;!c;a->b;c->b");
        x.off(0, 1);
        check.same("an OFF one is not the first", Told.proof(x, B, SURE), "!c;!b;");
    }

    private void never() {
        proven("=>b", B, NEVER, "#b;");
        proven("c->b;d->b", B, NEVER, "#c;#d;#b;");
        proven("!a;a,~d,c->b", B, NEVER, "#c;#b;");
        proven("c->d;d->b;c->b", B, NEVER, "#c;#d;#b;");
        RuleCourt x = Told.court("c->b;d->b");
        x.off(1, 1);
        check.same("of an OFF one nothing", Told.proof(x, B, NEVER), "#c;#b;");
    }

    private void likelyBySure() {
        proven("!b", B, LIKELY, "!b;+b;");
        proven("!b;=>b", B, LIKELY, "!b;+b;");
        proven("=>b;->c;c->b", B, LIKELY, "#~b;+b;");
        proven("!a;a=>b;!b;c=>~b", B, LIKELY, "!b;+b;");
        proven("->b;->~b", B, LIKELY, "!b;+b;");
    }

    private void likelyByForce() {
        proven("=>b", B, LIKELY, "#~b;+b;");
        proven("c=>b;!a;a=>b", B, LIKELY, "!a;#~b;+a;+b;");
        proven("!a;a=>b;c->~b", B, LIKELY, "!a;#c;#~b;+a;-c;+b;");
        proven("!a;~>b;a=>b", B, LIKELY, "!a;#~b;+a;+b;");
    }

    private void likelyByFalls() {
        proven("=>b;c=>~b", B, LIKELY, "#c;#~b;-c;+b;");
        proven("c=>~b;=>b", B, LIKELY, "#c;#~b;-c;+b;");
        proven("=>b" + ";=>c".repeat(14) + ";d=>~b", B, LIKELY, "#d;#~b;-d;+b;");
        proven("=>b;c=>~b;d~>~b", B, LIKELY, "#c;#d;#~b;-c;-d;+b;");
        proven("=>b;=>b*9;c=>~b", B, LIKELY, "#~b;+b;");
        proven("=>b*9;c=>~b;d=>d", B, LIKELY, "#~b;+b;");
        proven("!a;a=>b*9;c=>~b", B, LIKELY, "!a;#c;#~b;+a;-c;+b;");
    }

    private void likelyByAbove() {
        proven("!a;!c;a=>b;c=>b*1;=>~b", B, LIKELY, "!a;!c;#~b;+a;+c;+b;");
        proven("!a;!c;!d;a=>b;c=>b*2;d=>b*2;=>~b*1", B, LIKELY, "!a;!c;#~b;+a;+c;+b;");
        proven("!a;!c;a=>b;c=>b;=>~b;1>2", B, LIKELY, "!a;!c;#~b;+a;+c;+b;");
        proven("!a;!c;e=>b*9;a=>b;c=>b*2;=>~b*1", B, LIKELY, "!a;!c;#~b;+a;+c;+b;");
    }

    private void unlikelyFirstThatHolds() {
        // All fall and THE OTHER is SURE; the OTHER is SURE and a rule for it applies.
        proven("!~b;c=>b", B, UNLIKELY, "!~b;#b;-b;");
        proven("!~b;=>b;e->b", B, UNLIKELY, "!~b;#e;#b;-b;");
        proven("!~b;!c;=>b?c;e->b", B, UNLIKELY, "!c;#e;#b;+c;-e;-b;");
        proven("->~b;=>b", B, UNLIKELY, "!~b;#b;-b;");
        proven("!~b;~>c;=>b;=>~b", B, UNLIKELY, "!~b;#b;-b;");
        proven("!~b", B, UNLIKELY, "#b;-b;");
    }

    private void unlikelyByFalls() {
        proven("=>a", B, UNLIKELY, "#b;-b;");
        proven("c=>b;d=>b", B, UNLIKELY, "#b;#c;#d;-c;-d;-b;");
        proven("c=>b;c,d=>b", B, UNLIKELY, "#b;#c;-c;-b;");
        proven("c->b;~>b", B, UNLIKELY, "#c;#b;-c;-b;");
    }

    private void unlikelyBySure() {
        proven("=>b;!~b", B, UNLIKELY, "!~b;#b;-b;");
        proven("!a;a->~b;=>b*9", B, UNLIKELY, "!a;#b;!~b;-b;");
        proven("!b;!~c;=>c;b=>a?c", A, LIKELY, "!b;!~c;#c;#~a;+b;-c;+a;");
    }

    private void unlikelyByForce() {
        proven("!c;!d;=>b;c=>~b;d=>~b", B, UNLIKELY, "!c;#b;+c;-b;");
        proven("!c;!d;=>b*1;c=>~b;d=>~b*1", B, UNLIKELY, "!d;#b;+d;-b;");
        proven("!d;=>b;c=>~b;d~>~b", B, UNLIKELY, "!d;#b;+d;-b;");
        proven("=>b;=>~b", B, UNLIKELY, "#b;-b;");
    }

    private void unlikelyByFallsAbove() {
        proven("d=>b*1;=>b;=>~b", B, UNLIKELY, "#b;#d;-d;-b;");
        proven("d=>b*1;=>b;e=>b*2;=>~b", B, UNLIKELY, "#b;#d;#e;-d;-e;-b;");
        proven("!c;=>b;=>b?c*1;=>~b", B, UNLIKELY, "!c;#b;+c;-b;");
        proven("d=>b;=>b;=>~b;0>2", B, UNLIKELY, "#b;#d;-d;-b;");
    }

    private void force() {
        proven("!a;!~c;a,~c=>b?d,~e", B, LIKELY, "!a;!~c;#d;#~b;#~e;+a;+~c;-d;-~e;+b;");
        proven("=>b?c", B, LIKELY, "#c;#~b;-c;+b;");
        proven("=>b;=>~b?c,~d", B, UNLIKELY, "#b;#c;#~d;-c;-~d;-b;");
    }

    private void fallOfABody() {
        proven("!a;a,d,c=>b", B, UNLIKELY, "#b;#c;-c;-b;");
        proven("!a;c=>b?a", B, UNLIKELY, "#b;#c;-c;-b;");
        proven("d,~a=>b", B, UNLIKELY, "#b;#d;-d;-b;");
    }

    private void fallByAnException() {
        proven("!a;=>b?a", B, UNLIKELY, "!a;#b;+a;-b;");
        proven("!a;!~j;=>b?c,~j,a", B, UNLIKELY, "!a;#b;+a;-b;");
        proven("!c;!d;=>b?c;=>b?d", B, UNLIKELY, "!c;!d;#b;+c;+d;-b;");
        proven("!~j;=>b?c,~j", B, UNLIKELY, "!~j;#b;+~j;-b;");
        proven("!a;=>c;c=>d;d=>b?a", B, UNLIKELY, "!a;#b;+a;-b;");
    }

    private void eachOnce() {
        proven("!a;a->b;a->c;b,c->d", D, SURE, "!a;!b;!c;!d;");
        proven("c->d;c->e;d->b;e->b", B, NEVER, "#c;#d;#e;#b;");
        proven("!a;a=>c;a=>d;c,d,a=>b", B, LIKELY, "!a;#~b;#~c;#~d;+a;+c;+d;+b;");
        RuleCourt x = Told.court("!a;a->b;a->c;b,c->d");
        check.same("how many", x.proof(D, SURE, -1), 4);
        proven("=>j", A, NEVER, "#a;");
    }

    private void orderOfProofs() {
        // One round has all four tags; within a tag the literals go by their numbers.
        proven("!j;!~a;b,a->c;j,~a=>d?c,~e", D, LIKELY, "!j;!~a;#a;#~d;#~e;#c;+j;+~a;-a;-~e;-c;+d;");
        RuleCourt x = Told.court("!j;!~a;b,a->c;j,~a=>d?c,~e");
        int[] steps = {9, 10, 100, 113, 114, 102, 209, 210, 300, 314, 302, 203};
        for (int k = 0; k < steps.length; k++) {
            check.same("step " + k, x.proof(D, LIKELY, k), steps[k]);
        }
        int[] rounds = {1, 1, 1, 1, 1, 2, 2, 2, 2, 2, 3, 4};
        for (int k = 0; k < steps.length; k++) {
            check.same("round of step " + k, x.tag(steps[k] % 100, steps[k] / 100), rounds[k]);
        }
    }

    private void marks() {
        proven("!a", A, SURE, "!a;");
        proven("!a", J + OTHER, NEVER, "#~j;");
        proven("!~a", A + OTHER, LIKELY, "!~a;+~a;");
        proven("!a", J, UNLIKELY, "#j;-j;");
    }

    private void threats() {
        check.same("none", new RuleCourt().sides(A, 0), 0);
        check.same("one that applies", Told.court("=>~a").sides(A, 0), Told.bits(0));
        check.same("a BAR too", Told.court("~>~a").sides(A, 0), Told.bits(0));
        check.same("one that falls", Told.court("c=>~a").sides(A, 0), 0);
        check.same("neither", Told.court("c=>c;c=>~a").sides(A, 0), Told.bits(1));
        check.same("as strong", Told.court("=>~a;=>a").sides(A, 0), Told.bits(0));
        check.same("a stronger one", Told.court("=>~a;=>a*1").sides(A, 0), 0);
        check.same("a stronger one that doesn't apply", Told.court("=>~a;c=>a*1;c=>c").sides(A, 0), Told.bits(0));
        check.same("a stronger BAR", Told.court("=>~a;~>a*1").sides(A, 0), Told.bits(0));
        check.same("by a late TAG", Told.court("!b;b=>c;c=>d;d=>a*1;=>~a").sides(A, 0), 0);
        check.same("of the NOT", Told.court("=>j").sides(J + OTHER, 0), Told.bits(0));
        RuleCourt x = Told.court("=>~a");
        x.off(0, 1);
        check.same("OFF", x.sides(A, 0), 0);
    }

    private void team() {
        check.same("none", new RuleCourt().sides(A, 1), 0);
        check.same("STRICT and SOFT, no BAR", Told.court("->a;=>a;~>a").sides(A, 1), Told.bits(0, 1));
        check.same("those that apply", Told.court("c=>a;=>a?c;c=>c;d=>a").sides(A, 1), 0);
        check.same("beaten ones too", Told.court("=>a;=>~a*9").sides(A, 1), Told.bits(0));
        RuleCourt full = new RuleCourt();
        for (int r = 0; r < 16; r++) {
            full.rule(1, J + OTHER, 0, 0, 0);
        }
        check.same("all 16", full.sides(J + OTHER, 1), 0xFFFF);
        full.off(15, 1);
        check.same("OFF", full.sides(J + OTHER, 1), 0x7FFF);
    }

    private void circles() {
        check.same("of no rules", new RuleCourt().count(1), 0);
        check.same("of strengths alone none", Told.court("=>a*1;=>b*2;=>c*3").count(1), 0);
        check.same("of two none", Told.court("=>a;=>b*9;0>1").count(1), 0);
        check.same("of three", Told.court("=>a;=>b*2;=>c*1;0>1").count(1), Told.bits(0, 1, 2));
        check.same("one above them", Told.court("=>a;=>b;=>c;=>d*1;0>1;1>2;2>0").count(1), Told.bits(0, 1, 2));
        check.same("one below them", Told.court("=>a*1;=>b*1;=>c*1;=>d;0>1;1>2;2>0").count(1), Told.bits(0, 1, 2));
        RuleCourt x = new RuleCourt();
        for (int r = 0; r < 16; r++) {
            x.rule(1, r, 0, 0, 0);
        }
        for (int r = 0; r < 15; r++) {
            x.over(r, r + 1, 1);
        }
        check.same("a chain of 16", x.count(1), 0);
        x.over(15, 0, 1);
        check.same("a circle of 16", x.count(1), 0xFFFF);
        for (int r = 0; r < 16; r++) {
            x.off(r, 1);
        }
        check.same("OFF ones", x.count(1), 0xFFFF);
        x.over(7, 8, 0);
        check.same("parted", x.count(1), 0);
        x.undo();
        check.same("undone", x.count(1), 0xFFFF);
        x.begin();
        check.same("of none any more", x.count(1), 0);
        x.rule(1, 0, 0, 0, 0);
        check.same("of one", x.count(1), 0);
    }

    private void missing() {
        check.same("none", new RuleCourt().count(2), 0);
        check.same("one", Told.court("a=>a").count(2), Told.bits(A));
        check.same("NEVER alone is not enough", Told.court("~j=>~j").count(2), Told.bits(J + OTHER));
        check.same("its other is not", Told.court("a->a").count(2), Told.bits(A));
        RuleCourt x = new RuleCourt();
        for (int r = 0; r < 16; r++) {
            x.rule(1, r + 4, 1 << r + 4, 0, 0);
        }
        check.same("as many as rules can make", x.count(2), 0xFFFF0);
    }

    private RuleCourt told() {
        RuleCourt x = Told.court("!a;a,c=>b*3;=>~b*2;d=>d;1>0");
        x.off(2, 1);
        x.undo();
        x.image();
        x.list(0, 2);
        x.feed('!');
        x.prints(-1, 0);
        return x;
    }

    private void nothingIsChanged() {
        String due = Picture.of(told());
        for (int q = 0; q < 20; q++) {
            RuleCourt x = told();
            for (int k = 0; k < 4; k++) {
                x.would(q, k * 5, k & 1);
                x.hinges(q, k);
                x.least(k & 1, q);
                x.lots(q, k, 12, q);
                x.judge(0, 0, k);
            }
            x.key(q);
            check.same("after thoughts of " + q, Picture.of(x), due);
        }
    }

    /** What is thought of is the court as it is now, of whatever kind its rules were when it was thought of last. */
    private void thoughtsFollowChanges() {
        RuleCourt x = new RuleCourt();
        x.rule(1, B, 1 << A, 0, 0);
        check.same("would by a SOFT one", x.would(B, A, 1), Told.bits(NEVER, LIKELY));
        x.begin();
        x.rule(2, B, 1 << A, 0, 0);
        check.same("would by a BAR", x.would(B, A, 1), Told.bits(NEVER, UNLIKELY));
        x.begin();
        x.rule(0, B, 1 << A, 0, 0);
        check.same("would by a STRICT one", x.would(B, A, 1), Told.bits(SURE, LIKELY));
        check.same("key", x.key(B), A);
        x.begin();
        x.rule(1, B, 1 << D, 0, 0);
        check.same("key with another rule", x.key(B), D);
        x.begin();
        x.rule(1, B, 1 << D, 1 << A + OTHER, 0);
        check.same("key with an exception", x.key(B), D);
        check.same("would with an exception", x.would(B, A + OTHER, 1), Told.bits(NEVER, UNLIKELY));
        check.same("least without a FACT", x.least(0, B), NOT);
        x.fact(D, 1);
        check.same("least with a FACT", x.least(0, B), 0);
        check.same("hinges with a FACT", x.hinges(B, LIKELY), Told.bits(0));
        x.fact(D, 0);
        check.same("hinges without", x.hinges(B, LIKELY), 0);
        x.begin();
        x.rule(1, B, 0, 0, 0);
        check.same("lots with an exception less", x.lots(B, LIKELY, 12, 1), 12 - timesDrawn(B + OTHER, 12, 1));
        x.off(0, 1);
        check.same("lots with one OFF", x.lots(B, LIKELY, 12, 1), timesDrawn(B, 12, 1));
        x.off(0, 0);
        check.same("least with one ON", x.least(0, B), 0);
        x.rule(2, B + OTHER, 0, 0, 3);
        check.same("least against another", x.least(0, B), 4);
        check.same("hinges against another", x.hinges(B, LIKELY), Told.bits(1));
        x.strength(1, 5);
        check.same("least against a stronger one", x.least(0, B), 6);
        x.over(0, 1, 1);
        check.same("least with a PAIR", x.least(0, B), 0);
        check.same("hinges with a PAIR", x.hinges(B, LIKELY), Told.bits(0));
    }

    private void key() {
        check.same("the very first literal", Told.court("a=>b").key(B), A);
        check.same("the very last one", Told.court("~j=>b").key(B), J + OTHER);
        check.same("the least", Told.court("~j=>b;d=>b;~c=>b").key(B), D);
        check.same("not q", new RuleCourt().key(A), NOT);
        check.same("not q, but one behind it", Told.court("d=>a").key(A), D);
        check.same("no FACT", Told.court("!a;a=>b;=>~b;c=>b*1").key(B), C);
        check.same("two were needed", Told.court("a,c=>b").key(B), NOT);
        check.same("it is LIKELY", Told.court("=>b").key(B), STATE);
        check.same("neither so nor otherwise", Told.court("b=>b;c=>b").key(B), C);
    }

    private void hinges() {
        check.same("of no rules", new RuleCourt().hinges(A, NEVER), 0);
        check.same("didn't where it does", Told.court("=>a").hinges(A, LIKELY), Told.bits(0));
        check.same("came where it doesn't", Told.court("=>a").hinges(A, UNLIKELY), Told.bits(0));
        check.same("each alone is not needed", Told.court("=>a;=>a").hinges(A, LIKELY), 0);
        check.same("each alone is not enough", Told.court("=>a;~>~a;~>~a").hinges(A, LIKELY), 0);
        RuleCourt x = new RuleCourt();
        x.fact(0, 1);
        for (int r = 0; r < 16; r++) {
            x.rule(0, r + 1, 1 << r, 0, 0);
        }
        check.same("all 16", x.hinges(16, SURE), 0xFFFF);
        check.same("the first of 16", x.hinges(1, SURE), 1);
        RuleCourt y = Told.court("=>a;~>~a;~>~a");
        y.off(1, 1);
        check.same("with one OFF the other is one", y.hinges(A, LIKELY), Told.bits(2));
        check.same("the OFF one is none", y.hinges(A, UNLIKELY), Told.bits(2));
    }

    private void least() {
        check.same("0", Told.court("=>a*9").least(0, A), 0);
        check.same("1", Told.court("=>a;=>~a").least(0, A), 1);
        check.same("9", Told.court("=>a;=>~a*8").least(0, A), 9);
        check.same("none", Told.court("=>a;=>~a*9").least(0, A), NOT);
        check.same("of one that must be weak", Told.court("=>a*5;=>~a*9").least(1, A), 0);
        check.same("it is LIKELY by more than the least", Told.court("=>a*7;=>~a*3").least(0, A), 4);
        check.same("a pair tells", Told.court("=>a;=>~a*9;0>1").least(0, A), 0);
        check.same("a pair tells the other way", Told.court("=>a*9;=>~a;1>0").least(0, A), NOT);
    }

    /** What the words say of a DRAW, in numbers without an end that are cut to an int's bits. */
    private static long nextSeed(long z) {
        long bits = (z * 1103515245L + 12345L) & 0xFFFFFFFFL;
        return bits >= 0x80000000L ? bits - 0x100000000L : bits;
    }

    private static int drawBelowThree(long z) {
        long withoutSign = z < 0 ? z + 0x80000000L : z;
        return (int) (withoutSign / 65536 % 3);
    }

    private static int[] draws(int courts, int seed) {
        int[] drawn = new int[10 * courts];
        long z = seed;
        for (int i = 0; i < drawn.length; i++) {
            z = nextSeed(z);
            drawn[i] = drawBelowThree(z);
        }
        return drawn;
    }

    private static int timesDrawn(int literal, int courts, int seed) {
        int[] drawn = draws(courts, seed);
        int times = 0;
        for (int i = literal % 10; i < drawn.length; i += 10) {
            times += drawn[i] == literal / 10 ? 1 : 0;
        }
        return times;
    }

    private void noFactsButDrawn() {
        RuleCourt x = new RuleCourt();
        for (int q = 0; q < 20; q++) {
            x.fact(q, 1);
        }
        RuleCourt none = new RuleCourt();
        for (int q = 0; q < 20; q++) {
            for (int n = 1; n <= 12; n++) {
                check.same(n + " courts of " + q, x.lots(q, SURE, n, 77), timesDrawn(q, n, 77));
                check.same(n + " courts of " + q, none.lots(q, SURE, n, 77), timesDrawn(q, n, 77));
            }
        }
    }

    private void drawnInOrder() {
        // By hand: 0 becomes 12345, over 65536 cut 0: a is a FACT.
        check.same("a by 0", new RuleCourt().lots(A, SURE, 1, 0), 1);
        check.same("~a by 0", new RuleCourt().lots(A + OTHER, SURE, 1, 0), 0);
        int[] seeds = {0, 1, 2, 3, 4, 5};
        for (int z : seeds) {
            int[] drawn = draws(1, z);
            RuleCourt x = new RuleCourt();
            for (int atom = 0; atom < 10; atom++) {
                check.same("atom " + atom, x.lots(atom, SURE, 1, z), drawn[atom] == 0 ? 1 : 0);
                check.same("its NOT " + atom, x.lots(atom + OTHER, SURE, 1, z), drawn[atom] == 1 ? 1 : 0);
            }
        }
    }

    private void howManyTimes() {
        RuleCourt x = Told.court("a=>b;~a=>b");
        for (int z = 0; z < 20; z++) {
            check.same("never so of a", x.lots(A, NEVER, 12, z), 12 - timesDrawn(A, 12, z));
            check.same("all of ~e or not", x.lots(E + OTHER, SURE, 12, z) + x.lots(E + OTHER, NEVER, 12, z), 12);
        }
        check.same("each time", Told.court("->j").lots(J, SURE, 12, 5), 12);
        check.same("no time", Told.court("->j").lots(J, NEVER, 12, 5), 0);
        RuleCourt circle = Told.court("j->j;~j->~j");
        check.same("neither so nor otherwise, but by FACTS", circle.lots(J, SURE, 12, 5) + circle.lots(J, NEVER, 12, 5),
            timesDrawn(J, 12, 5));
    }

    private void seedsWrapAround() {
        int[] seeds = {Integer.MAX_VALUE, Integer.MAX_VALUE - 1, 1 << 30, 2_000_000_011, 3, 65536};
        for (int z : seeds) {
            for (int q = 0; q < 20; q++) {
                check.same(q + " by " + z, new RuleCourt().lots(q, SURE, 12, z), timesDrawn(q, 12, z));
            }
        }
    }

    private void seedsWithSigns() {
        int[] seeds = {-1, -2, -5, Integer.MIN_VALUE, Integer.MIN_VALUE + 1, -65536, -1103515245};
        for (int z : seeds) {
            for (int q = 0; q < 20; q++) {
                check.same(q + " by " + z, new RuleCourt().lots(q, SURE, 12, z), timesDrawn(q, 12, z));
            }
        }
    }
}
