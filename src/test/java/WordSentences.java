/** The document's "Terms", second part: words and their faults, changes, the image, the tape, the paper, lists. */
final class WordSentences {
    private static final int NOT = -2, FULL = -3, STATE = -5, NOTHING = -11, BEYOND = -13;
    private static final int A = 0, B = 1, C = 2, D = 3, J = 9, OTHER = 10;

    private final Check check;

    private WordSentences(Check check) {
        this.check = check;
    }

    static void run(Check check, Sentences sentences) {
        WordSentences t = new WordSentences(check);
        t.statements(sentences);
        t.faults(sentences);
        t.changes(sentences);
        t.rows(sentences);
        t.wordsSaidOnceMore(sentences);
    }

    private void statements(Sentences s) {
        s.test("WORDS: STATEMENTS, one or more, parted by ; :", this::oneOrMore);
        s.test("! LITERAL (a FACT);", this::facts);
        s.test("or a RULE: its BODY (LITERALS parted by , or nothing), -> (STRICT), => (SOFT) or ~> (BAR), its HEAD,",
            this::rules);
        s.test("then perhaps ? and its EXCEPTIONS (LITERALS parted by ,),", this::exceptions);
        s.test("then perhaps * and its STRENGTH (a figure);", this::strengths);
        s.test("or a PAIR: two numbers of RULES (1 or 2 figures) with > between.", this::pairs);
        s.test("LITERAL: a .. j, perhaps with ~ ahead.", this::literals);
        s.test("They come one by one.", this::oneByOne);
    }

    private void faults(Sentences s) {
        s.test("FAULT: -1000 less the place of the first byte with which no WORDS go on", this::faultOfAByte);
        s.test("(the length, if they end too early);", this::endsTooEarly);
        s.test("else -2000 less the place where the first STATEMENT begins that could not come:", this::firstOfFaults);
        s.test("a FACT that is one,", this::aFactThatIsOne);
        s.test("a 17th RULE,", this::aSeventeenthRule);
        s.test("EXCEPTIONS of a STRICT one, a number of no RULE (as it is then),", this::numberOfNoRule);
        s.test("the same twice,", this::theSameTwice);
        s.test("a PAIR that is told, this way or the other.", this::aPairThatIsTold);
        s.test("With a FAULT nothing comes.", this::nothingComes);
    }

    private void changes(Sentences s) {
        s.test("CHANGES: what fact(), rule(), off(), strength(), over() and each STATEMENT of WORDS did",
            this::whatAreChanges);
        s.test("(where they are not refused, also if nothing became otherwise):", this::refusedOrVain);
        s.test("the latest 12 can be UNDONE, the latest first,", this::latestTwelve);
        s.test("and DONE AGAIN (as long as none came behind).", this::doneAgain);
        s.test("each STATEMENT of WORDS did (where they are not refused, also if nothing became otherwise): the latest 12"
            + " can be UNDONE", this::allOfARule);
        s.test("THE IMAGE keeps FACTS, RULES, PAIRS; laid back, there are no CHANGES.", this::theImage);
        s.test("THE IMAGE keeps FACTS, RULES, PAIRS;", this::allThatTheImageKeeps);
    }

    private void rows(Sentences s) {
        s.test("THE TAPE holds 0 .. 120 bytes;", this::theTape);
        s.test("THE PAPER what was printed last (nothing at first).", this::thePaper);
        s.test("LISTS 0 .. 3 hold nothing (at first) or a row of 0 .. 24 ints (0 at first).", this::theLists);
    }

    private void wordsSaidOnceMore(Sentences s) {
        s.test("Said once more: OFF RULES are printed, too.", this::offRulesArePrinted);
        s.test("A LITERAL told twice in a BODY counts once;", this::toldTwice);
        s.test("without * a STRENGTH is 0;", this::withoutAStrength);
        s.test("~ where a STATEMENT begins is part of ~> or of a LITERAL, behind a LITERAL of a BODY of ~> alone.",
            this::whereATildeStands);
        s.test("tagged() in a round there was not: 0.", this::noSuchRound);
        s.test("A LITERAL without FORWARD RULES FOR it: all FALL.", this::withoutForwardRules);
        s.test("A FAULT leaves CHANGES (also UNDONE ones) as they were.", this::faultsAndChanges);
        s.test("key(): the FACT in thought may be THE OTHER of one.", this::keyOfAnOther);
        s.test("least(), hinges(): all else as it is.", this::allElseAsItIs);
        s.test("count(3): both LITERALS of an ATOM are in it.", this::bothLikely);
    }

    private void came(String words, int statements) {
        check.same("statements of " + words, Told.read(new RuleCourt(), words), statements);
    }

    private void fault(String words, int place) {
        check.same("fault of " + words, Told.read(new RuleCourt(), words), -1000 - place);
    }

    private void rule(String words, String printed) {
        RuleCourt x = new RuleCourt();
        check.same("statements of " + words, Told.read(x, words), 1);
        check.same("rules of " + words, Told.rules(x), printed);
    }

    private void oneOrMore() {
        fault("", 0);
        came("!a", 1);
        came("!a;!b", 2);
        fault("!a;", 3);
        fault(";!a", 0);
        fault("!a;;!b", 3);
        fault("!a!b", 2);
        fault("!a :!b", 2);
        came("!a;!b;!c;!d;!e;!f;!g;!h;!i;!j;!~a;!~b;!~c;!~d;!~e;!~f;!~g;!~h;!~i;!~j", 20);
        came("->a;".repeat(15) + "->a", 16);
        check.same("the most that a TAPE has room for", Told.read(new RuleCourt(), "!a;".repeat(39) + "!a"), -2003);
    }

    private void facts() {
        RuleCourt x = Told.court("!a;!~j");
        check.same("facts", x.count(0), Told.bits(A, J + OTHER));
        check.same("no rules", x.count(4), 0);
        fault("!", 1);
        fault("!!a", 1);
        fault("!a,b", 2);
        fault("!a*1", 2);
        fault("!=>a", 1);
    }

    private void rules() {
        rule("->a", "->a*0;");
        rule("=>a", "=>a*0;");
        rule("~>a", "~>a*0;");
        rule("~a->~b", "~a->~b*0;");
        rule("~j,j,a=>c", "a,j,~j=>c*0;");
        rule("a,b,c,d,e,f,g,h,i,j,~a,~b,~c,~d,~e,~f,~g,~h,~i,~j~>j",
            "a,b,c,d,e,f,g,h,i,j,~a,~b,~c,~d,~e,~f,~g,~h,~i,~j~>j*0;");
        fault("a", 1);
        fault("a,", 2);
        fault(",a->b", 0);
        fault("a,,b->c", 2);
        fault("a,->b", 2);
        fault("a-b", 2);
        fault("a=b", 2);
        fault("a>b", 1);
        fault("->", 2);
        fault("->a,b", 3);
        fault("->!a", 2);
    }

    private void exceptions() {
        rule("=>a?b", "=>a?b*0;");
        rule("=>a?~j,b,~j", "=>a?b,~j*0;");
        rule("~>a?a", "~>a?a*0;");
        fault("=>a?", 4);
        fault("=>a?,b", 4);
        fault("=>a?b,", 6);
        fault("=>a?b?c", 5);
        fault("=>a?*1", 4);
        fault("?a", 0);
    }

    private void strengths() {
        rule("=>a*0", "=>a*0;");
        rule("=>a*9", "=>a*9;");
        rule("->a*5", "->a*5;");
        rule("=>a?b*7", "=>a?b*7;");
        fault("=>a*", 4);
        fault("=>a*:", 4);
        fault("=>a*/", 4);
        fault("=>a*10", 5);
        fault("=>a*-1", 4);
        fault("=>a*1?b", 5);
        fault("*1", 0);
    }

    private void pairs() {
        RuleCourt x = Told.court("=>a".concat(";=>a".repeat(15)));
        check.same("1 and 2 figures", Told.read(x, "0>9;09>10;15>00;10>15"), 4);
        check.same("of 0", x.ruleOf(0, 6), Told.bits(9));
        check.same("of 9", x.ruleOf(9, 6), Told.bits(10));
        check.same("of 15", x.ruleOf(15, 6), Told.bits(0));
        check.same("of 10", x.ruleOf(10, 6), Told.bits(15));
        fault("1", 1);
        fault("11", 2);
        fault("111", 2);
        fault("1>", 2);
        fault("1>111", 4);
        fault("11>11>", 5);
        fault("1->1", 1);
        fault("1>a", 2);
        fault(">1", 0);
    }

    private void literals() {
        for (int letter = 1; letter < 128; letter++) {
            boolean isAtom = letter >= 'a' && letter <= 'j';
            if (letter != '~') {
                check.same("letter " + letter, Told.read(new RuleCourt(), "!" + (char) letter), isAtom ? 1 : -1001);
            }
            check.same("letter " + letter, Told.read(new RuleCourt(), "!~" + (char) letter), isAtom ? 1 : -1002);
        }
        fault("!~", 2);
        fault("!a~", 2);
    }

    private void oneByOne() {
        RuleCourt x = Told.court("!a;=>b;=>~b;0>1;!b");
        check.same("each is a CHANGE", x.count(8), 5);
        x.undo();
        check.same("without the last", x.count(0), 1);
        x.undo();
        check.same("without the pair", x.count(5), 0);
        x.undo();
        check.same("without the second rule", x.count(4), 1);
        RuleCourt y = new RuleCourt();
        check.same("a pair of what came just ahead", Told.read(y, "=>a;=>b;0>1;=>c;2>0"), 5);
        check.same("a pair ahead of its rule", Told.read(y, "3>0;=>d"), -2000);
    }

    private void faultOfAByte() {
        fault("k", 0);
        fault("!k", 1);
        fault("\u0001", 0);
        fault("\u007f", 0);
        fault("!a\u0001", 2);
        fault("!a;!a;!a;!x", 10);
        fault("0>0;x", 4);
        fault("a->b?c;%", 7);
        fault("!a;".repeat(39) + "!a,", 119);
        fault("!a;".repeat(39) + "!k;", 118);
        fault("-a", 1);
        fault("=-", 1);
        fault("~~", 1);
        fault("~=", 1);
        fault("a~a", 2);
        fault("A->b", 0);
    }

    private void endsTooEarly() {
        String[] early = {"", "!", "!~", "~", "a", "~a", "a,", "a,~", "-", "a=", "a~", "~>", "->", "->~", "=>a?", "=>a?~",
            "=>a?b,", "=>a*", "1", "12", "1>", "!a;", "!a;!", "!a;1>"};
        for (String words : early) {
            fault(words, words.length());
        }
        String full = "!a;".repeat(40);
        fault(full, 120);
        fault(full.substring(0, 119) + "~", 119);
        fault("->a;->a;" + "!a;".repeat(37) + "a", 120);
        fault("->a;->a;" + "!a;".repeat(37) + "~", 120);
        fault("!a;".repeat(39) + "~>", 119);
    }

    private void firstOfFaults() {
        check.same("the very first", Told.read(Told.court("!a"), "!a;!b"), -2000);
        check.same("the last", Told.read(Told.court("!a"), "!b;=>c;!a"), -2007);
        check.same("the first of two", Told.read(Told.court("!a"), "!b;0>0;!a"), -2003);
        check.same("one of a byte goes ahead", Told.read(Told.court("!a"), "!a;!"), -1004);
        check.same("at the end of a full TAPE", Told.read(new RuleCourt(), "a->b?c,~d;".repeat(12)), -1120);
        String most = "!a;!b;!c;!d;!e;!f;!g;!h;!i;!j;" + "->a;".repeat(16) + ("!~a;!~b;!~c;!~d;!~e;!~f");
        check.same("behind 16 rules", Told.read(new RuleCourt(), most + ";!a"), -2000 - most.length() - 1);
    }

    private void aFactThatIsOne() {
        check.same("told ahead", Told.read(Told.court("!a"), "!a"), -2000);
        check.same("told in the same WORDS", Told.read(new RuleCourt(), "!~j;!~j"), -2004);
        check.same("its other is another one", Told.read(Told.court("!a"), "!~a"), 1);
        check.same("SURE is not a FACT", Told.read(Told.court("->a"), "!a"), 1);
        RuleCourt x = Told.court("!a");
        x.undo();
        check.same("undone: it is none", Told.read(x, "!a"), 1);
        x.fact(A, 0);
        check.same("no more a FACT", Told.read(x, "!a"), 1);
    }

    private void aSeventeenthRule() {
        RuleCourt x = new RuleCourt();
        for (int r = 0; r < 15; r++) {
            x.rule(1, 0, 0, 0, 0);
        }
        check.same("a 17th", Told.read(x, "=>b;=>c"), -2004);
        check.same("a 16th", Told.read(x, "=>b"), 1);
        check.same("a 17th again", Told.read(x, "=>c"), -2000);
        check.same("a 17th behind others", Told.read(x, "!a;0>1;=>c"), -2007);
        check.same("all else goes on", Told.read(x, "!a;0>15"), 2);
        check.same("all in one TAPE", Told.read(new RuleCourt(), "->a;".repeat(16) + "->a"), -2064);
    }

    private void numberOfNoRule() {
        check.same("EXCEPTIONS of a STRICT one", Told.read(new RuleCourt(), "!a;->b?c"), -2003);
        check.same("of a SOFT one", Told.read(new RuleCourt(), "!a;=>b?c"), 2);
        check.same("none at all", Told.read(new RuleCourt(), "0>1"), -2000);
        check.same("one alone", Told.read(Told.court("=>a"), "0>1"), -2000);
        check.same("the first is none", Told.read(Told.court("=>a"), "1>0"), -2000);
        check.same("both are there", Told.read(Told.court("=>a;=>b"), "0>1"), 1);
        check.same("it comes behind", Told.read(Told.court("=>a"), "0>1;=>b"), -2000);
        check.same("it came ahead", Told.read(Told.court("=>a"), "=>b;0>1"), 2);
        check.same("99", Told.read(Told.court("=>a;=>b"), "0>99"), -2000);
        RuleCourt x = Told.court("=>a;=>b");
        x.undo();
        check.same("it was undone", Told.read(x, "0>1"), -2000);
        check.same("an OFF one is one", readWithOneOff("0>1"), 1);
    }

    private static int readWithOneOff(String words) {
        RuleCourt x = Told.court("=>a;=>b");
        x.off(1, 1);
        return Told.read(x, words);
    }

    private void theSameTwice() {
        check.same("0", Told.read(Told.court("=>a"), "0>0"), -2000);
        check.same("told in two ways", Told.read(Told.court("=>a;=>b"), "01>1"), -2000);
        check.same("15", Told.read(Told.court("=>a" + ";=>a".repeat(15)), "15>15"), -2000);
    }

    private void aPairThatIsTold() {
        check.same("this way", Told.read(Told.court("=>a;=>b;0>1"), "!a;0>1"), -2003);
        check.same("the other way", Told.read(Told.court("=>a;=>b;0>1"), "!a;1>0"), -2003);
        check.same("in the same WORDS", Told.read(Told.court("=>a;=>b"), "0>1;00>01"), -2004);
        check.same("the other way in the same WORDS", Told.read(Told.court("=>a;=>b"), "0>1;1>0"), -2004);
        RuleCourt x = Told.court("=>a;=>b;0>1");
        x.over(0, 1, 0);
        check.same("no more told", Told.read(x, "1>0"), 1);
    }

    private void nothingComes() {
        String[] faulty = {"!b;=>c;0>1;!a", "!b;=>c;0>1;!", "=>c;".repeat(16) + "!b", "!b;=>c;2>2", ""};
        for (String words : faulty) {
            RuleCourt x = Told.court("!a;=>a;=>b");
            check.holds("a fault: " + words, Told.read(x, words) <= -1000);
            check.same("facts after " + words, x.count(0), 1);
            check.same("rules after " + words, Told.rules(x), "=>a*0;=>b*0;");
            check.same("pairs after " + words, x.count(5), 0);
            check.same("changes after " + words, x.count(8), 3);
            check.same("tags after " + words, x.tag(C, 2), 0);
            check.same("the tape after " + words, x.count(10), 0);
        }
    }

    private void whatAreChanges() {
        RuleCourt x = new RuleCourt();
        x.fact(A, 1);
        check.same("fact", x.count(8), 1);
        x.rule(1, B, 0, 0, 0);
        check.same("rule", x.count(8), 2);
        x.off(0, 1);
        check.same("off", x.count(8), 3);
        x.strength(0, 4);
        check.same("strength", x.count(8), 4);
        x.rule(1, C, 0, 0, 0);
        x.over(0, 1, 1);
        check.same("over", x.count(8), 6);
        Told.read(x, "!b;=>d;1>2");
        check.same("each statement", x.count(8), 9);
        x.prints(-1, 0);
        x.feed('!');
        x.list(0, 2);
        x.set(0, 0, 1);
        x.image();
        x.would(A, B, 1);
        x.key(D);
        x.lots(A, 0, 3, 3);
        check.same("nothing else", x.count(8), 9);
        x.undo();
        check.same("not undo", x.count(8) * 10 + x.count(9), 81);
        x.redo();
        check.same("not redo", x.count(8) * 10 + x.count(9), 90);
    }

    private void refusedOrVain() {
        RuleCourt x = Told.court("!a;=>b;=>c;0>1");
        x.fact(20, 1);
        x.rule(0, A, 0, 1, 0);
        x.off(2, 1);
        x.strength(0, 10);
        x.over(1, 0, 1);
        x.over(1, 1, 1);
        Told.read(x, "!b;!a");
        check.same("refused", x.count(8), 4);
        x.fact(A, 1);
        x.fact(B, 0);
        x.off(0, 0);
        x.strength(0, 0);
        x.over(0, 1, 1);
        x.over(1, 0, 0);
        check.same("nothing became otherwise", x.count(8), 10);
        check.same("each is undone for itself", x.undo(), 9);
        check.same("nothing became otherwise by that", x.count(5), 1);
        x.strength(1, 0);
        check.same("a vain one is one that came behind", x.redo(), STATE);
    }

    private void latestTwelve() {
        RuleCourt x = new RuleCourt();
        for (int q = 0; q < 12; q++) {
            x.fact(q, 1);
        }
        check.same("12", x.count(8), 12);
        for (int q = 11; q >= 0; q--) {
            check.same("how many still", x.undo(), q);
            check.same("the latest first", x.count(0), (1 << q) - 1);
        }
        check.same("no more", x.undo(), STATE);
        RuleCourt y = new RuleCourt();
        for (int q = 0; q < 13; q++) {
            y.fact(q, 1);
        }
        check.same("13: 12 of them", y.count(8), 12);
        for (int i = 0; i < 12; i++) {
            y.undo();
        }
        check.same("the first of 13 stays", y.count(0), 1);
        check.same("it can't be undone", y.undo(), STATE);
        RuleCourt z = new RuleCourt();
        check.same("of WORDS too", Told.read(z, "->a;".repeat(15) + "->a"), 16);
        check.same("12 of 16", z.count(8), 12);
    }

    private void doneAgain() {
        RuleCourt x = new RuleCourt();
        for (int q = 0; q < 14; q++) {
            x.fact(q, 1);
        }
        for (int i = 0; i < 12; i++) {
            x.undo();
        }
        check.same("12", x.count(9), 12);
        for (int left = 11; left >= 0; left--) {
            check.same("done again", x.redo(), left);
            check.same("the first undone last", x.count(0), (1 << 14 - left) - 1);
        }
        check.same("no more", x.redo(), STATE);
        x.undo();
        x.undo();
        x.fact(19, 1);
        check.same("one came behind", x.redo(), STATE);
        check.same("none", x.count(9), 0);
        check.same("but it can be undone", x.undo(), 10);
        check.same("and done again", x.redo(), 0);
    }

    /** Rules of other kinds, one after another in the same place, each undone and done again with all it has. */
    private void allOfARule() {
        String[] told = {"->a*0;", "a,~b=>~c?d*9;", "~e~>j?~f,~g*5;", "=>b*1;"};
        RuleCourt x = new RuleCourt();
        for (String rule : told) {
            Told.read(x, rule.substring(0, rule.length() - 1));
            check.same("told", Told.rules(x), rule);
            x.undo();
            check.same("undone", Told.rules(x), "");
            x.redo();
            check.same("done again", Told.rules(x), rule);
            x.undo();
        }
        RuleCourt y = Told.court("->a;a,~b=>~c?d*9;~e~>j?~f*5;0>1;!a");
        for (int i = 0; i < 5; i++) {
            y.undo();
        }
        Told.read(y, "b~>~j?c*4;->d*2");
        y.undo();
        y.undo();
        y.redo();
        check.same("the later one", Told.rules(y), "b~>~j?c*4;");
        y.redo();
        check.same("both later ones", Told.rules(y), "b~>~j?c*4;->d*2;");
        y.off(0, 1);
        y.undo();
        check.same("ON again", y.ruleOf(0, 5), 0);
        y.redo();
        check.same("OFF again", y.ruleOf(0, 5), 1);
    }

    private void allThatTheImageKeeps() {
        RuleCourt x = Told.court("!a;!~j;->a;a,~b=>~c?d*9;~e~>j?~f*5;0>1;2>1");
        x.off(1, 1);
        x.image();
        x.begin();
        Told.read(x, "!b;b~>~j?c*4;->d*2;d=>e?f*3;->c;3>0");
        check.same("another court", x.tag(D, 0), 1);
        x.off(0, 1);
        check.same("back", x.back(), 3);
        check.same("facts", x.count(0), Told.bits(A, J + OTHER));
        check.same("rules", Told.rules(x), "->a*0;a,~b=>~c?d*9;~e~>j?~f*5;");
        check.same("pairs", x.ruleOf(0, 6) * 100 + x.ruleOf(1, 6) * 10 + x.ruleOf(2, 6), 202);
        check.same("OFF", x.ruleOf(0, 5) * 100 + x.ruleOf(1, 5) * 10 + x.ruleOf(2, 5), 10);
        check.same("tags", x.tag(D, 0) * 10 + x.tag(A, 0), 1);
        check.same("a new rule is ON, over none", x.rule(1, B, 0, 0, 0), 3);
        check.same("a new rule is ON, over none", x.ruleOf(3, 5) + x.ruleOf(3, 6), 0);
    }

    private void theImage() {
        RuleCourt x = Told.court("!a;a=>b?c*2;=>~b;1>0");
        x.off(0, 1);
        check.same("kept", x.image(), 2);
        check.same("kept: CHANGES stay", x.count(8), 5);
        x.begin();
        check.same("laid back", x.back(), 2);
        check.same("facts", x.count(0), Told.bits(A));
        check.same("rules", Told.rules(x), "a=>b?c*2;=>~b*0;");
        check.same("OFF", x.ruleOf(0, 5) * 10 + x.ruleOf(1, 5), 10);
        check.same("pairs", x.ruleOf(1, 6), Told.bits(0));
        check.same("no CHANGES", x.count(8) * 10 + x.count(9), 0);
        x.fact(D, 1);
        x.undo();
        check.same("back with one UNDONE", x.back(), 2);
        check.same("none is left", x.redo(), STATE);
        x.fact(D, 1);
        check.same("back with one", x.back(), 2);
        check.same("none to undo", x.undo(), STATE);
        x.fact(J, 1);
        x.undo();
        check.same("undone to what was laid back", x.count(0), Told.bits(A));
        check.same("and its rules", x.count(4), 2);
    }

    private void theTape() {
        RuleCourt x = new RuleCourt();
        check.same("0", x.count(10), 0);
        for (int n = 1; n <= 120; n++) {
            check.same("byte " + n, x.feed('!'), n);
        }
        check.same("a 121st", x.feed('!'), FULL);
        check.same("120", x.count(10), 120);
        check.same("read", x.reads(), -1001);
        check.same("0 again", x.count(10), 0);
        check.same("room again", x.feed('!'), 1);
        String full = "a=>b?" + "c,".repeat(56) + "c*9";
        check.same("120 bytes of WORDS", full.length(), 120);
        check.same("they come", Told.read(new RuleCourt(), full), 1);
    }

    private void thePaper() {
        RuleCourt x = new RuleCourt();
        check.same("nothing", x.count(11), 0);
        check.same("nothing at 0", x.paper(0), NOT);
        Told.read(x, "!a;=>b*3");
        check.same("still nothing", x.count(11), 0);
        x.prints(-1, 0);
        check.same("rules", Told.paper(x), "=>b*3;");
        x.prints(A, 0);
        check.same("a proof", Told.paper(x), "!a;");
        check.same("no more than it", x.paper(3), NOT);
        x.begin();
        check.same("it stays", Told.paper(x), "!a;");
        x.prints(-1, 0);
        check.same("nothing was printed last", x.count(11), 0);
    }

    private void theLists() {
        RuleCourt x = new RuleCourt();
        for (int list = 0; list < 4; list++) {
            check.same("nothing at first", x.set(list, 0, 1), NOTHING);
            check.same("a row of 0", x.list(list, 0), 1);
            check.same("it has no place", x.set(list, 0, 1), BEYOND);
            check.same("a row of 24", x.list(list, 24), 1);
            for (int i = 0; i < 24; i++) {
                check.same("0 at first", x.get(list, i), 0);
            }
            check.same("its last place", x.set(list, 23, -1), 1);
            check.same("no 25th", x.set(list, 24, -1), BEYOND);
            check.same("a row of 25", x.list(list, 25), -1);
        }
        check.same("list -1", x.list(-1, 1), -1);
        check.same("list 4", x.list(4, 1), -1);
    }

    private void offRulesArePrinted() {
        RuleCourt x = Told.court("=>a;b->c;~>d");
        for (int r = 0; r < 3; r++) {
            x.off(r, 1);
        }
        check.same("all OFF", Told.rules(x), "=>a*0;b->c*0;~>d*0;");
    }

    private void toldTwice() {
        rule("a,a=>b", "a=>b*0;");
        rule("~j,a,~j,a,~j->b", "a,~j->b*0;");
        rule("=>b?c,c", "=>b?c*0;");
        RuleCourt x = Told.court("a,a,b,a=>c");
        check.same("bits", x.ruleOf(0, 2), Told.bits(A, B));
        check.same("both ways are two", Told.court("a,~a=>c").ruleOf(0, 2), Told.bits(A, A + OTHER));
    }

    private void withoutAStrength() {
        RuleCourt x = Told.court("=>a*9;=>b;c=>d?e;->f");
        check.same("of a SOFT one", x.ruleOf(1, 4), 0);
        check.same("with EXCEPTIONS", x.ruleOf(2, 4), 0);
        check.same("of a STRICT one", x.ruleOf(3, 4), 0);
        check.same("so in print", Told.rules(x), "=>a*9;=>b*0;c=>d?e*0;->f*0;");
    }

    private void whereATildeStands() {
        rule("~>a", "~>a*0;");
        rule("~a=>b", "~a=>b*0;");
        rule("~a~>b", "~a~>b*0;");
        rule("~>~a", "~>~a*0;");
        fault("~", 1);
        fault("~-", 1);
        fault("~~a=>b", 1);
        fault("~k", 1);
        fault("a~b=>c", 2);
        fault("a~", 2);
        fault("a,b~c=>d", 4);
        fault("a,~>b", 3);
        fault("!a;~", 4);
        rule("a,~b~>c", "a,~b~>c*0;");
        check.same("where another STATEMENT begins", Told.read(new RuleCourt(), "!a;~>b;~a=>b"), 3);
    }

    private void noSuchRound() {
        RuleCourt x = Told.court("!a");
        for (int tag = 0; tag < 4; tag++) {
            check.same("behind the last", x.tagged(tag, x.count(7) + 1), 0);
            check.same("far behind", x.tagged(tag, 81), 0);
            check.same("the greatest number", x.tagged(tag, Integer.MAX_VALUE), 0);
        }
    }

    private void withoutForwardRules() {
        RuleCourt x = Told.court("!b;~>a;->c;=>c;~>~j");
        check.same("with a BAR alone", x.tag(A, 3), 2);
        check.same("with none", x.tag(D, 3), 2);
        check.same("with a BAR for it", x.tag(J + OTHER, 3), 2);
        check.same("with such, that apply", x.tag(C, 3), 0);
        check.same("its proof", Told.proof(x, A, 3), "#a;-a;");
        x.off(1, 1);
        x.off(2, 1);
        check.same("with OFF ones", x.tag(C, 3), 2);
        check.same("a FACT is not NEVER", x.tag(B, 3), 0);
    }

    private void faultsAndChanges() {
        String[] faulty = {"!d;!a", "!d;", "", "0>0", "=>a;".repeat(17) + "!d"};
        for (String words : faulty) {
            RuleCourt x = Told.court("!a;!b;!c;=>a");
            x.undo();
            x.undo();
            check.holds("a fault: " + words, Told.read(x, words) <= -1000);
            check.same("can be UNDONE", x.count(8), 2);
            check.same("can be DONE AGAIN", x.count(9), 2);
            check.same("done again", x.redo(), 1);
            check.same("a fact", x.count(0), Told.bits(A, B, C));
            check.same("done again", x.redo(), 0);
            check.same("a rule", x.count(4), 1);
            check.same("undone", x.undo() + x.undo() + x.undo() + x.undo(), 6);
            check.same("nothing is left", x.count(0) + x.count(4), 0);
        }
    }

    private void keyOfAnOther() {
        check.same("the NOT of a FACT", Told.court("!a;~a=>b").key(B), A + OTHER);
        check.same("an ATOM whose NOT is a FACT", Told.court("!~a;a=>b").key(B), A);
        check.same("the first and the last", Told.court("!j;~j=>b").key(B), J + OTHER);
    }

    private void allElseAsItIs() {
        RuleCourt x = Told.court("=>a;=>~a;=>~a*5;b=>a*9");
        x.off(2, 1);
        check.same("another one stays OFF", x.least(0, A), 1);
        check.same("an OFF one stays OFF", x.least(2, A), NOT);
        check.same("hinges with one OFF", x.hinges(A, 2), Told.bits(1));
        x.off(2, 0);
        check.same("with it ON", x.least(0, A), 6);
        check.same("hinges with it ON", x.hinges(A, 2), 0);
        x.over(0, 2, 1);
        check.same("with a PAIR", x.least(0, A), 1);
        x.fact(B, 1);
        check.same("with a FACT", x.least(0, A), 0);
        check.same("the strength stays", x.ruleOf(0, 4), 0);
        x.strength(3, 0);
        x.strength(1, 9);
        check.same("with another's strength", x.least(0, A), NOT);
    }

    private void bothLikely() {
        check.same("none", new RuleCourt().count(3), 0);
        check.same("one way alone", Told.court("!a;!~b").count(3), 0);
        check.same("both", Told.court("!a;!~a").count(3), Told.bits(A, A + OTHER));
        check.same("of the last ATOM", Told.court("!j;!~j").count(3), Told.bits(J, J + OTHER));
        check.same("of j and ~a not", Told.court("!j;!~a").count(3), 0);
        check.same("by STRICT rules", Told.court("!a;a->b;a->~b").count(3), Told.bits(B, B + OTHER));
        RuleCourt x = new RuleCourt();
        for (int q = 0; q < 20; q++) {
            x.fact(q, 1);
        }
        check.same("all", x.count(3), (1 << 20) - 1);
    }
}
