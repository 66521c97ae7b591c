import java.util.Random;

/** Random runs of at most 512 calls, each answer compared with PlainCourt's. The seeds are fixed. */
final class RandomRuns {
    private static final int CALLS = 512;

    private final Check check;
    private final Random random;
    private final int atoms;
    private RuleCourt x;
    private PlainCourt plain;
    private int calls = 0;

    private RandomRuns(Check check, long seed) {
        this.check = check;
        this.random = new Random(seed);
        this.atoms = 2 + random.nextInt(9);
    }

    static void run(Check check, int runs) {
        for (int seed = 0; seed < runs; seed++) {
            new RandomRuns(check, seed).oneRun(seed);
        }
    }

    private void oneRun(int seed) {
        x = new RuleCourt();
        plain = new PlainCourt();
        int failed = check.failed();
        while (calls < CALLS && check.failed() == failed) {
            if (below(12) == 0) {
                tellWords();
            } else {
                oneCall();
            }
        }
        if (check.failed() > failed) {
            System.out.println("  in random run " + seed + " near call " + calls);
        }
    }

    /** An object is free in its answers behind its last call: then nothing is compared any more. */
    private void same(String call, long got, long due) {
        calls++;
        if (calls <= CALLS) {
            check.same(call, got, due);
        }
    }

    private int below(int n) {
        return random.nextInt(n);
    }

    private boolean rarely() {
        return below(40) == 0;
    }

    private int odd() {
        int[] odd = {-1, -2, Integer.MIN_VALUE, Integer.MAX_VALUE, 20, 21, 16, 10, 4, 2, 1 << 20, 25, 120};
        return odd[below(odd.length)];
    }

    private int literal() {
        return rarely() ? odd() : below(atoms) + 10 * below(2);
    }

    private int number(int n) {
        return rarely() ? odd() : below(n);
    }

    private int ruleNumber() {
        int size = plain.count(4);
        return number(size == 0 ? 1 : size);
    }

    private int someLiterals() {
        if (rarely()) {
            return odd();
        }
        int bits = 0;
        for (int n = below(4) * below(2) + below(2); n > 0; n--) {
            bits |= 1 << below(atoms) + 10 * below(2);
        }
        return bits;
    }

    private String told(int q) {
        return q < 10 ? "" + (char) ('a' + q) : "~" + (char) ('a' + q - 10);
    }

    private String someTold(int least) {
        StringBuilder text = new StringBuilder();
        for (int n = least + below(3) * below(2); n > 0; n--) {
            text.append(text.length() == 0 ? "" : ",").append(told(below(atoms) + 10 * below(2)));
        }
        return text.toString();
    }

    private String statement() {
        int what = below(8);
        if (what < 2) {
            return "!" + told(below(atoms) + 10 * below(2));
        }
        if (what == 2) {
            int size = plain.count(4) + 2;
            return (rarely() ? "0" : "") + below(size) + ">" + below(size);
        }
        int kind = below(3);
        return someTold(below(2)) + "-=~".charAt(kind) + ">" + told(below(atoms) + 10 * below(2))
            + (kind > 0 && below(3) == 0 || rarely() ? "?" + someTold(1) : "") + (below(2) == 0 ? "*" + below(10) : "");
    }

    private String words() {
        StringBuilder text = new StringBuilder(statement());
        for (int n = below(4); n > 0; n--) {
            text.append(';').append(statement());
        }
        String marks = "!#~-=>?*,;019abjk&~";
        if (below(3) == 0) {
            int at = below(text.length() + 1);
            char mark = marks.charAt(below(marks.length()));
            switch (below(3)) {
                case 0: text.insert(at, mark); break;
                case 1: text.setLength(at); break;
                default: text.setCharAt(at == text.length() ? 0 : at, mark);
            }
        }
        return text.toString();
    }

    private void tellWords() {
        String text = words();
        for (int i = 0; i < text.length(); i++) {
            same("feed", x.feed(text.charAt(i)), plain.feed(text.charAt(i)));
        }
        same("reads " + text, x.reads(), plain.reads());
    }

    private void oneCall() {
        int what = below(44);
        if (what < 11) {
            tell(what);
        } else if (what < 24) {
            askTags(what - 11);
        } else if (what < 32) {
            think(what - 24);
        } else {
            rows(what - 32);
        }
    }

    private void tell(int what) {
        int q = literal();
        int r = ruleNumber();
        int s = ruleNumber();
        int is = number(2);
        int v = number(10);
        switch (what) {
            case 0: case 1:
                same("fact", x.fact(q, is), plain.fact(q, is));
                break;
            case 2: case 3: case 4: case 5:
                int kind = number(3);
                int body = someLiterals();
                int exceptions = kind == 0 && !rarely() || below(2) == 0 ? 0 : someLiterals();
                same("rule", x.rule(kind, q, body, exceptions, v), plain.rule(kind, q, body, exceptions, v));
                break;
            case 6:
                same("off", x.off(r, is), plain.off(r, is));
                break;
            case 7:
                same("strength", x.strength(r, v), plain.strength(r, v));
                break;
            case 8: case 9:
                same("over", x.over(r, s, is), plain.over(r, s, is));
                break;
            default:
                int letter = rarely() ? odd() : 1 + below(127);
                if (below(4) == 0) {
                    same("feed", x.feed(letter), plain.feed(letter));
                } else if (below(30) == 0) {
                    same("begin", x.begin(), plain.begin());
                } else {
                    same("reads", x.reads(), plain.reads());
                }
        }
    }

    private void askTags(int what) {
        int q = literal();
        int tag = number(4);
        int k = rarely() ? odd() : below(9) - 1;
        int r = ruleNumber();
        switch (what) {
            case 0: case 1:
                same("tag", x.tag(q, tag), plain.tag(q, tag));
                break;
            case 2:
                same("tagged", x.tagged(tag, k), plain.tagged(tag, k));
                break;
            case 3:
                same("state", x.state(r), plain.state(r));
                break;
            case 4:
                int side = number(2);
                same("sides", x.sides(q, side), plain.sides(q, side));
                break;
            case 5: case 6:
                same("proof", x.proof(q, tag, k), plain.proof(q, tag, k));
                break;
            case 7: case 8:
                int of = below(4) == 0 ? -1 : q;
                same("prints", x.prints(of, tag), plain.prints(of, tag));
                break;
            case 9:
                int i = rarely() ? odd() : below(12) * below(5);
                same("paper", x.paper(i), plain.paper(i));
                break;
            case 10:
                int part = number(8);
                same("ruleOf", x.ruleOf(r, part), plain.ruleOf(r, part));
                break;
            case 11:
                same("rulesFor", x.rulesFor(q), plain.rulesFor(q));
                break;
            default:
                int which = number(12);
                same("count " + which, x.count(which), plain.count(which));
        }
    }

    private void think(int what) {
        int q = literal();
        int tag = number(4);
        switch (what) {
            case 0: case 1:
                int fact = literal();
                int is = number(2);
                same("would", x.would(q, fact, is), plain.would(q, fact, is));
                break;
            case 2: case 3:
                same("key", x.key(q), plain.key(q));
                break;
            case 4:
                same("hinges", x.hinges(q, tag), plain.hinges(q, tag));
                break;
            case 5:
                int r = ruleNumber();
                same("least", x.least(r, q), plain.least(r, q));
                break;
            case 6:
                int n = 1 + number(12);
                int z = random.nextInt();
                same("lots", x.lots(q, tag, n, z), plain.lots(q, tag, n, z));
                break;
            default:
                fillAndJudge(tag);
        }
    }

    private void fillAndJudge(int tag) {
        int list = number(4);
        int p = rarely() ? odd() : below(5);
        if (below(3) > 0 && tag >= 0 && tag < 4 && list >= 0 && list < 4) {
            int n = p + 18 + below(4);
            same("list", x.list(list, n), plain.list(list, n));
            for (int i = 0; i < 20; i++) {
                int v = rarely() ? 1 : plain.tag(i, tag);
                same("set", x.set(list, p + i, v), plain.set(list, p + i, v));
            }
        }
        same("judge", x.judge(list, p, tag), plain.judge(list, p, tag));
    }

    private void rows(int what) {
        int list = number(4);
        int i = number(25);
        int v = random.nextInt();
        switch (what) {
            case 0:
                same("list", x.list(list, i), plain.list(list, i));
                break;
            case 1: case 2:
                same("set", x.set(list, i, v), plain.set(list, i, v));
                break;
            case 3: case 4:
                same("get", x.get(list, i), plain.get(list, i));
                break;
            case 5: case 6: case 7:
                same("undo", x.undo(), plain.undo());
                break;
            case 8: case 9:
                same("redo", x.redo(), plain.redo());
                break;
            case 10:
                same("image", x.image(), plain.image());
                break;
            default:
                if (below(4) == 0) {
                    same("back", x.back(), plain.back());
                }
        }
    }
}
