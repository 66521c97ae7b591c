import java.util.ArrayList;
import java.util.List;
import java.util.Random;

/** Courts of few atoms and many rules against each other, asked for all there is to ask; compared with PlainCourt. */
final class DenseCourts {
    private final Check check;
    private final Random random;
    private final int atoms;
    private final List<int[]> told = new ArrayList<>();

    private DenseCourts(Check check, long seed) {
        this.check = check;
        this.random = new Random(seed);
        this.atoms = 1 + random.nextInt(5);
        tell();
    }

    static void run(Check check, int courts) {
        for (int seed = 0; seed < courts; seed++) {
            int failed = check.failed();
            DenseCourts court = new DenseCourts(check, seed);
            court.whatThereIs();
            court.inThought();
            court.proofs();
            if (check.failed() > failed) {
                System.out.println("  in dense court " + seed);
                return;
            }
        }
    }

    private int literal() {
        return random.nextInt(atoms) + 10 * random.nextInt(2);
    }

    private int literals(int most) {
        int bits = 0;
        for (int n = random.nextInt(most + 1); n > 0; n--) {
            bits |= 1 << literal();
        }
        return bits;
    }

    private void tell() {
        int rules = 1 + random.nextInt(16);
        int strictOnes = 1 + random.nextInt(4);
        int mostBody = 1 + random.nextInt(3);
        int strengths = 1 + random.nextInt(3);
        for (int n = random.nextInt(atoms + 1); n > 0; n--) {
            told.add(new int[] {0, literal(), 1});
        }
        for (int r = 0; r < rules; r++) {
            int kind = random.nextInt(strictOnes) == 0 ? 0 : 1 + random.nextInt(4) / 3;
            int exceptions = kind > 0 && random.nextInt(3) == 0 ? literals(2) : 0;
            told.add(new int[] {1, kind, literal(), literals(mostBody), exceptions, random.nextInt(strengths)});
        }
        for (int n = random.nextInt(2 * rules); n > 0; n--) {
            told.add(new int[] {2, random.nextInt(rules), random.nextInt(rules), 1});
        }
        for (int n = random.nextInt(3); n > 0; n--) {
            told.add(new int[] {3, random.nextInt(rules), 1});
        }
    }

    private RuleCourt court() {
        RuleCourt x = new RuleCourt();
        for (int[] t : told) {
            switch (t[0]) {
                case 0: x.fact(t[1], t[2]); break;
                case 1: x.rule(t[1], t[2], t[3], t[4], t[5]); break;
                case 2: x.over(t[1], t[2], t[3]); break;
                default: x.off(t[1], t[2]);
            }
        }
        return x;
    }

    private PlainCourt plain() {
        PlainCourt x = new PlainCourt();
        for (int[] t : told) {
            switch (t[0]) {
                case 0: x.fact(t[1], t[2]); break;
                case 1: x.rule(t[1], t[2], t[3], t[4], t[5]); break;
                case 2: x.over(t[1], t[2], t[3]); break;
                default: x.off(t[1], t[2]);
            }
        }
        return x;
    }

    private void whatThereIs() {
        RuleCourt x = court();
        PlainCourt plain = plain();
        for (int what = 0; what < 10; what++) {
            check.same("count " + what, x.count(what), plain.count(what));
        }
        for (int r = 0; r < plain.count(4); r++) {
            check.same("state " + r, x.state(r), plain.state(r));
            check.same("above " + r, x.ruleOf(r, 7), plain.ruleOf(r, 7));
            check.same("over " + r, x.ruleOf(r, 6), plain.ruleOf(r, 6));
        }
        for (int tag = 0; tag < 4; tag++) {
            for (int round = 0; round < 10; round++) {
                check.same("tagged " + tag + " " + round, x.tagged(tag, round), plain.tagged(tag, round));
            }
        }
        for (int q = 0; q < 20; q++) {
            check.same("threats " + q, x.sides(q, 0), plain.sides(q, 0));
            check.same("team " + q, x.sides(q, 1), plain.sides(q, 1));
        }
    }

    private void inThought() {
        RuleCourt x = court();
        PlainCourt plain = plain();
        for (int atom = 0; atom < atoms; atom++) {
            for (int q = atom; q < 20; q += 10) {
                int tag = random.nextInt(4);
                int fact = literal();
                int is = random.nextInt(2);
                int rule = random.nextInt(plain.count(4));
                int z = random.nextInt();
                check.same("key " + q, x.key(q), plain.key(q));
                check.same("hinges " + q + " " + tag, x.hinges(q, tag), plain.hinges(q, tag));
                check.same("would " + q, x.would(q, fact, is), plain.would(q, fact, is));
                check.same("least " + rule + " " + q, x.least(rule, q), plain.least(rule, q));
                check.same("lots " + q, x.lots(q, tag, 3, z), plain.lots(q, tag, 3, z));
            }
        }
    }

    private void proofs() {
        PlainCourt plain = plain();
        for (int q = 0; q < atoms + 10; q++) {
            for (int tag = 0; tag < 4; tag++) {
                RuleCourt x = court();
                int bytes = plain.prints(q, tag);
                check.same("prints " + q + " " + tag, x.prints(q, tag), bytes);
                for (int i = 0; i < bytes; i++) {
                    check.same("paper " + q + " " + tag + " " + i, x.paper(i), plain.paper(i));
                }
            }
        }
    }
}
