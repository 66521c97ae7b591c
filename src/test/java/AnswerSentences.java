import java.util.function.Supplier;
import java.util.function.ToLongFunction;

/** The document's answers that refuse: which goes ahead of which, and that what is refused changes nothing. */
final class AnswerSentences {
    private static final int BAD = -1, NOT = -2, FULL = -3, STATE = -5, NOTHING = -11, BEYOND = -13, BELOW = -14;
    private static final int MIN = Integer.MIN_VALUE, MAX = Integer.MAX_VALUE;
    private static final long NO = Long.MIN_VALUE;

    private final Check check;

    private AnswerSentences(Check check) {
        this.check = check;
    }

    static void run(Check check, Sentences sentences) {
        AnswerSentences t = new AnswerSentences(check);
        t.order(sentences);
        t.whatIsRefused(sentences);
    }

    private void order(Sentences s) {
        s.test("Answers, of several the first as here: BAD (-1) no such number, or it is not as told;", this::badFirst);
        s.test("NOTHING (-11) a LIST that holds nothing,", this::nothingNext);
        s.test("BELOW (-14) a size below 0,", this::below);
        s.test("BEYOND (-13) no such place;", this::beyond);
        s.test("STATE (-5) as told; FULL (-3) as told; NOT (-2) nothing such.", this::stateFullNot);
        s.test("public static final int BAD = -1, NOT = -2, FULL = -3, STATE = -5;", this::constants);
        s.test("The constants: `NO = Long.MIN_VALUE`: No such place.", this::noPlace);
    }

    private void whatIsRefused(Sentences s) {
        s.test("What is answered so changes nothing,", this::nothingChanges);
        s.test("but THE TAPE, where it is read: it is empty then.", this::emptyTape);
        s.test("All memory is the class's own.", this::ownMemory);
    }

    /** Rules, changes both ways, an image, lists with something and with nothing, a paper, a tape. */
    private static RuleCourt told() {
        RuleCourt x = Told.court("!a;a=>b*2;=>~b?c;0>1");
        x.image();
        x.off(1, 1);
        x.strength(0, 3);
        x.undo();
        x.list(0, 3);
        x.set(0, 1, 7);
        x.list(1, 0);
        x.prints(-1, 0);
        x.feed('!');
        x.feed('d');
        return x;
    }

    private static RuleCourt fullOfRules() {
        RuleCourt x = new RuleCourt();
        for (int r = 0; r < 16; r++) {
            x.rule(1, r, 0, 0, 0);
        }
        x.over(0, 1, 1);
        x.undo();
        return x;
    }

    private static RuleCourt fullOfBytes() {
        RuleCourt x = Told.court("!a");
        for (int i = 0; i < 40; i++) {
            Told.feed(x, "!b;");
        }
        return x;
    }

    private void badFirst() {
        RuleCourt x = told();
        check.same("ahead of NOTHING: judge's p", x.judge(3, -1, 0), BAD);
        check.same("ahead of NOTHING: judge's tag", x.judge(3, 0, 4), BAD);
        check.same("ahead of BELOW: list", x.list(4, -1), BAD);
        check.same("ahead of BELOW: list", x.list(-1, MIN), BAD);
        check.same("ahead of BEYOND: set", x.set(4, 99, 0), BAD);
        check.same("ahead of BEYOND: set", x.set(-1, -1, 0), BAD);
        check.same("ahead of STATE: over", x.over(1, 0, 2), BAD);
        check.same("ahead of STATE: over", x.over(1, 0, -1), BAD);
        check.same("ahead of FULL: feed", fullOfBytes().feed(0), BAD);
        check.same("ahead of FULL: feed", fullOfBytes().feed(128), BAD);
        RuleCourt full = fullOfRules();
        check.same("ahead of FULL: kind", full.rule(3, 0, 0, 0, 0), BAD);
        check.same("ahead of FULL: head", full.rule(1, 20, 0, 0, 0), BAD);
        check.same("ahead of FULL: body", full.rule(1, 0, -1, 0, 0), BAD);
        check.same("ahead of FULL: exceptions", full.rule(1, 0, 0, -1, 0), BAD);
        check.same("ahead of FULL: exceptions of a STRICT one", full.rule(0, 0, 0, 1, 0), BAD);
        check.same("ahead of FULL: strength", full.rule(1, 0, 0, 0, 10), BAD);
        check.same("ahead of NOT: k", x.proof(5, 0, -2), BAD);
        check.same("ahead of NOT: prints", x.prints(20, 0), BAD);
        check.same("ahead of NOT: paper", new RuleCourt().paper(-1), BAD);
    }

    private void nothingNext() {
        RuleCourt x = told();
        check.same("judge", x.judge(3, 0, 0), NOTHING);
        check.same("judge far behind", x.judge(3, MAX, 3), NOTHING);
        check.same("set", x.set(3, 0, 1), NOTHING);
        check.same("ahead of BEYOND", x.set(3, 24, 1), NOTHING);
        check.same("ahead of BEYOND", x.set(3, -1, 1), NOTHING);
        check.same("a row of none is not nothing", x.judge(1, 0, 0), 100);
        check.same("a row of none is not nothing", x.set(1, 0, 0), BEYOND);
    }

    private void below() {
        RuleCourt x = told();
        check.same("-1", x.list(0, -1), BELOW);
        check.same("the least number", x.list(3, MIN), BELOW);
        check.same("0 is not below", x.list(3, 0), 1);
        check.same("a place below 0 is not a size", x.set(0, -1, 0), BEYOND);
    }

    private void beyond() {
        RuleCourt x = told();
        check.same("the last place", x.set(0, 2, 5), 1);
        check.same("one behind it", x.set(0, 3, 5), BEYOND);
        check.same("below 0", x.set(0, -1, 5), BEYOND);
        check.same("the least number", x.set(0, MIN, 5), BEYOND);
        check.same("the greatest number", x.set(0, MAX, 5), BEYOND);
    }

    private void stateFullNot() {
        check.same("over", told().over(1, 0, 1), STATE);
        check.same("key", told().key(0), STATE);
        check.same("undo", new RuleCourt().undo(), STATE);
        check.same("redo", new RuleCourt().redo(), STATE);
        check.same("back", new RuleCourt().back(), STATE);
        check.same("rule", fullOfRules().rule(1, 0, 0, 0, 0), FULL);
        check.same("feed", fullOfBytes().feed('a'), FULL);
        check.same("proof", told().proof(1, 0, -1), NOT);
        check.same("prints", told().prints(1, 0), NOT);
        check.same("paper", new RuleCourt().paper(0), NOT);
        check.same("no key, but it is LIKELY: STATE is first", Told.court("=>b").key(1), STATE);
        check.same("no key", new RuleCourt().key(1), NOT);
        check.same("least", Told.court("b=>b").least(0, 1), NOT);
    }

    private void constants() {
        check.same("BAD", RuleCourt.BAD, -1);
        check.same("NOT", RuleCourt.NOT, -2);
        check.same("FULL", RuleCourt.FULL, -3);
        check.same("STATE", RuleCourt.STATE, -5);
    }

    private void noPlace() {
        check.same("NO", RuleCourt.NO, -9223372036854775808L);
        check.same("NO is below all that a place can hold", RuleCourt.NO < Integer.MIN_VALUE ? 1 : 0, 1);
        RuleCourt x = told();
        x.set(0, 0, MIN);
        check.same("the least int is not NO", x.get(0, 0), MIN);
        check.same("no such place", x.get(0, 3), RuleCourt.NO);
    }

    private void stays(String what, Supplier<RuleCourt> told, ToLongFunction<RuleCourt> call, long due) {
        RuleCourt asked = told.get();
        check.same(what, call.applyAsLong(asked), due);
        check.same("all stays after " + what, Picture.of(asked), Picture.of(told.get()));
    }

    private void nothingChanges() {
        whatIsToldStays();
        rulesStay();
        askingStays();
        thoughtStays();
        rowsStay();
        changesStay();
    }

    private void whatIsToldStays() {
        int[] noLiterals = {-1, 20, MIN, MAX};
        for (int q : noLiterals) {
            stays("fact's literal", AnswerSentences::told, x -> x.fact(q, 1), BAD);
        }
        int[] noWays = {-1, 2, MIN, MAX};
        for (int is : noWays) {
            stays("fact's is", AnswerSentences::told, x -> x.fact(5, is), BAD);
            stays("off's is", AnswerSentences::told, x -> x.off(0, is), BAD);
            stays("over's is", AnswerSentences::told, x -> x.over(0, 1, is), BAD);
        }
        int[] noRules = {-1, 2, 16, MIN, MAX};
        for (int r : noRules) {
            stays("off's rule", AnswerSentences::told, x -> x.off(r, 1), BAD);
            stays("strength's rule", AnswerSentences::told, x -> x.strength(r, 1), BAD);
            stays("over's rule", AnswerSentences::told, x -> x.over(r, 0, 1), BAD);
            stays("over's other", AnswerSentences::told, x -> x.over(0, r, 1), BAD);
        }
        stays("strength's v", AnswerSentences::told, x -> x.strength(0, -1), BAD);
        stays("strength's v", AnswerSentences::told, x -> x.strength(0, 10), BAD);
        stays("over the same", AnswerSentences::told, x -> x.over(1, 1, 1), BAD);
        stays("over the same, no more", AnswerSentences::told, x -> x.over(1, 1, 0), BAD);
        stays("over the other way", AnswerSentences::told, x -> x.over(1, 0, 1), STATE);
        int[] noBytes = {0, -1, 128, MIN, MAX};
        for (int letter : noBytes) {
            stays("feed", AnswerSentences::told, x -> x.feed(letter), BAD);
        }
        stays("feed of a full tape", AnswerSentences::fullOfBytes, x -> x.feed('a'), FULL);
    }

    private void rulesStay() {
        stays("rule's kind", AnswerSentences::told, x -> x.rule(3, 0, 0, 0, 0), BAD);
        stays("rule's head", AnswerSentences::told, x -> x.rule(1, 20, 0, 0, 0), BAD);
        stays("rule's body", AnswerSentences::told, x -> x.rule(1, 0, 1 << 20, 0, 0), BAD);
        stays("rule's exceptions", AnswerSentences::told, x -> x.rule(1, 0, 0, 1 << 20, 0), BAD);
        stays("a STRICT one's exceptions", AnswerSentences::told, x -> x.rule(0, 0, 0, 1, 0), BAD);
        stays("rule's strength", AnswerSentences::told, x -> x.rule(1, 0, 0, 0, 10), BAD);
        stays("a 17th", AnswerSentences::fullOfRules, x -> x.rule(1, 0, 0, 0, 0), FULL);
        stays("a 17th with a wrong head", AnswerSentences::fullOfRules, x -> x.rule(1, -1, 0, 0, 0), BAD);
    }

    private void askingStays() {
        stays("ruleOf's rule", AnswerSentences::told, x -> x.ruleOf(2, 0), BAD);
        stays("ruleOf's what", AnswerSentences::told, x -> x.ruleOf(0, 8), BAD);
        stays("rulesFor", AnswerSentences::told, x -> x.rulesFor(20), BAD);
        stays("count", AnswerSentences::told, x -> x.count(12), BAD);
        stays("tag", AnswerSentences::told, x -> x.tag(0, 4), BAD);
        stays("tagged", AnswerSentences::told, x -> x.tagged(4, 0), BAD);
        stays("state", AnswerSentences::told, x -> x.state(2), BAD);
        stays("sides", AnswerSentences::told, x -> x.sides(0, 2), BAD);
        stays("proof's k", AnswerSentences::told, x -> x.proof(0, 0, -2), BAD);
        stays("proof that didn't come", AnswerSentences::told, x -> x.proof(1, 0, 0), NOT);
        stays("proof's end", AnswerSentences::told, x -> x.proof(0, 0, 1), NOT);
        stays("prints' literal", AnswerSentences::told, x -> x.prints(-2, 0), BAD);
        stays("prints' tag", AnswerSentences::told, x -> x.prints(0, 4), BAD);
        stays("prints what didn't come", AnswerSentences::told, x -> x.prints(1, 0), NOT);
        stays("paper below", AnswerSentences::told, x -> x.paper(-1), BAD);
        stays("paper behind", AnswerSentences::told, x -> x.paper(99), NOT);
    }

    private void thoughtStays() {
        stays("would's literal", AnswerSentences::told, x -> x.would(20, 0, 1), BAD);
        stays("would's fact", AnswerSentences::told, x -> x.would(0, 20, 1), BAD);
        stays("would's is", AnswerSentences::told, x -> x.would(0, 5, 2), BAD);
        stays("key's literal", AnswerSentences::told, x -> x.key(20), BAD);
        stays("key of a LIKELY one", AnswerSentences::told, x -> x.key(0), STATE);
        stays("no key", AnswerSentences::told, x -> x.key(9), NOT);
        stays("hinges' tag", AnswerSentences::told, x -> x.hinges(0, 4), BAD);
        stays("least's rule", AnswerSentences::told, x -> x.least(2, 0), BAD);
        stays("least by none", AnswerSentences::told, x -> x.least(0, 9), NOT);
        stays("lots' n", AnswerSentences::told, x -> x.lots(0, 0, 13, 1), BAD);
        stays("judge's p", AnswerSentences::told, x -> x.judge(0, -1, 0), BAD);
        stays("judge of nothing", AnswerSentences::told, x -> x.judge(3, 0, 0), NOTHING);
    }

    private void rowsStay() {
        stays("list's number", AnswerSentences::told, x -> x.list(4, 1), BAD);
        stays("list's n", AnswerSentences::told, x -> x.list(0, 25), BAD);
        stays("list's n below 0", AnswerSentences::told, x -> x.list(0, -1), BELOW);
        stays("a first list's n below 0", AnswerSentences::told, x -> x.list(3, -1), BELOW);
        stays("set's list", AnswerSentences::told, x -> x.set(4, 0, 1), BAD);
        stays("set in nothing", AnswerSentences::told, x -> x.set(3, 0, 1), NOTHING);
        stays("set behind", AnswerSentences::told, x -> x.set(0, 3, 1), BEYOND);
        stays("set below", AnswerSentences::told, x -> x.set(0, -1, 1), BEYOND);
        stays("get", AnswerSentences::told, x -> x.get(0, 3), NO);
    }

    private static RuleCourt allUndone() {
        RuleCourt x = Told.court("!a;=>b");
        x.undo();
        x.undo();
        return x;
    }

    private void changesStay() {
        stays("undo of none", AnswerSentences::allUndone, RuleCourt::undo, STATE);
        stays("redo of none", () -> Told.court("!a;=>b"), RuleCourt::redo, STATE);
        stays("back to none", () -> Told.court("!a;=>b"), RuleCourt::back, STATE);
    }

    private void emptyTape() {
        String[] read = {"", "x", "!a", "!b;!b", "=>c", "!b;"};
        for (String words : read) {
            RuleCourt x = Told.court("!a");
            Told.read(x, words);
            check.same("after " + words, x.count(10), 0);
            check.same("read again", x.reads(), -1000);
            check.same("room for the first byte", x.feed('!'), 1);
        }
        RuleCourt full = fullOfBytes();
        check.same("a full one ends too early", full.reads(), -1120);
        check.same("empty", full.count(10), 0);
        check.same("it is told anew", Told.read(full, "!c"), 1);
    }

    private void ownMemory() {
        RuleCourt one = told();
        String before = Picture.of(told());
        RuleCourt other = new RuleCourt();
        Told.read(other, "!j;=>j*9;->i;1>0");
        other.off(0, 1);
        other.undo();
        other.image();
        other.list(0, 24);
        other.set(0, 1, 99);
        other.list(3, 2);
        other.prints(-1, 0);
        other.feed('j');
        check.same("one court knows nothing of another", Picture.of(one), before);
        check.same("nor the other of the one", other.count(0), 1 << 9);
        check.same("nor its lists", other.get(0, 1), 99);
    }
}
