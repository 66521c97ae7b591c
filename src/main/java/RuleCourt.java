import java.util.Arrays;

/** A court of rules that may be beaten. The document's promises stand over the methods by their numbers. */
public final class RuleCourt {
    public static final int BAD = -1, NOT = -2, FULL = -3, STATE = -5;
    public static final long NO = Long.MIN_VALUE;

    private static final int NOTHING = -11, BEYOND = -13, BELOW = -14;
    private static final int WRONG_BYTE = -1000, WRONG_STATEMENT = -2000;

    private static final int ATOMS = 10, LITERALS = 20, ALL_LITERALS = (1 << LITERALS) - 1;
    private static final int RULES = 16, STRONGEST = 9;
    private static final int STRICT = 0, SOFT = 1, BAR = 2;
    private static final int SURE = 0, NEVER = 1, LIKELY = 2, UNLIKELY = 3, TAGS = 4;
    private static final int ALL_TAGS = TAGS * LITERALS;

    private static final int TAPE_BYTES = 120, MOST_STATEMENTS = 60;
    private static final int PAPER_BYTES = 2000;
    private static final int CHANGES = 12;
    private static final int LISTS = 4, LIST_PLACES = 24;
    private static final int MOST_COURTS = 12;

    private final Court court = new Court();
    private final Rounds rounds = new Rounds();
    private final Court thought = new Court();
    private final Rounds thoughtRounds = new Rounds();
    private final Proof chain = new Proof();
    private final History history = new History();
    private final Court kept = new Court();
    private final Words words = new Words();
    private final Paper sheet = new Paper();
    private final Rows rows = new Rows();
    private boolean isKept = false;
    private boolean isSettled = false;

    /** Promise 1. */
    public RuleCourt() {
    }

    // ---- what is told

    /** Promise 2. */
    public int begin() {
        int before = court.size;
        court.clear();
        restart();
        return before;
    }

    /** Promise 3. */
    public int fact(int literal, int is) {
        if (!isLiteral(literal) || !isYesOrNo(is)) {
            return BAD;
        }
        int before = bit(court.facts, literal);
        court.facts = withBit(court.facts, literal, is);
        changed();
        return before;
    }

    /** Promise 4. */
    public int rule(int kind, int head, int body, int exceptions, int strength) {
        if (kind < STRICT || kind > BAR || !isLiteral(head) || !isStrength(strength)) {
            return BAD;
        }
        if (!areLiterals(body) || !areLiterals(exceptions) || kind == STRICT && exceptions != 0) {
            return BAD;
        }
        if (!court.add(kind, head, body, exceptions, strength)) {
            return FULL;
        }
        changed();
        return court.size - 1;
    }

    /** Promise 5. */
    public int off(int rule, int is) {
        if (!court.hasRule(rule) || !isYesOrNo(is)) {
            return BAD;
        }
        int before = bit(court.shut, rule);
        court.shut = withBit(court.shut, rule, is);
        changed();
        return before;
    }

    /** Promise 6. */
    public int strength(int rule, int v) {
        if (!court.hasRule(rule) || !isStrength(v)) {
            return BAD;
        }
        int before = court.power[rule];
        court.power[rule] = v;
        changed();
        return before;
    }

    /** Promise 7. */
    public int over(int rule, int other, int is) {
        if (!court.hasRule(rule) || !court.hasRule(other) || rule == other || !isYesOrNo(is)) {
            return BAD;
        }
        if (is == 1 && has(court.beats[other], rule)) {
            return STATE;
        }
        int before = bit(court.beats[rule], other);
        court.beats[rule] = withBit(court.beats[rule], other, is);
        changed();
        return before;
    }

    /** Promise 8. */
    public int feed(int letter) {
        if (letter < 1 || letter > 127) {
            return BAD;
        }
        if (!words.add(letter)) {
            return FULL;
        }
        return words.length;
    }

    /** Promise 9. */
    public int reads() {
        boolean areWords = words.split();
        words.length = 0;
        if (!areWords) {
            return WRONG_BYTE - words.at;
        }
        // All are tried in thought first, since with one that can't come none may come.
        thought.copyFrom(court);
        for (int i = 0; i < words.told; i++) {
            if (!words.tell(i, thought)) {
                return WRONG_STATEMENT - words.begins[i];
            }
        }
        for (int i = 0; i < words.told; i++) {
            words.tell(i, court);
            changed();
        }
        return words.told;
    }

    // ---- what there is

    /** Promise 10. */
    public int ruleOf(int rule, int what) {
        if (!court.hasRule(rule)) {
            return BAD;
        }
        switch (what) {
            case 0: return court.kind[rule];
            case 1: return court.head[rule];
            case 2: return court.body[rule];
            case 3: return court.excepts[rule];
            case 4: return court.power[rule];
            case 5: return bit(court.shut, rule);
            case 6: return court.beats[rule];
            case 7: return court.rulesBelow(rule);
            default: return BAD;
        }
    }

    /** Promise 11. */
    public int rulesFor(int literal) {
        if (!isLiteral(literal)) {
            return BAD;
        }
        return settled().view.allFor[literal];
    }

    /** Promise 12. */
    public int count(int what) {
        switch (what) {
            case 0: return court.facts;
            case 1: return settled().view.circles();
            case 2: return settled().view.missing();
            case 3: return settled().view.likelyBothWays();
            case 4: return court.size;
            case 5: return court.pairs();
            case 6: return settled().howMany();
            case 7: return settled().last;
            case 8: return history.done;
            case 9: return history.undone;
            case 10: return words.length;
            case 11: return sheet.length;
            default: return BAD;
        }
    }

    // ---- tags

    /** Promise 13. */
    public int tag(int literal, int tag) {
        if (!isLiteral(literal) || !isTag(tag)) {
            return BAD;
        }
        return settled().roundOf(tag, literal);
    }

    /** Promise 14. */
    public int tagged(int tag, int round) {
        if (!isTag(tag) || round < 0) {
            return BAD;
        }
        if (round == 0) {
            return settled().view.known[tag];
        }
        return settled().broughtBy(tag, round);
    }

    /** Promise 15. */
    public int state(int rule) {
        if (!court.hasRule(rule)) {
            return BAD;
        }
        View view = settled().view;
        return bit(view.applies, rule) + 2 * bit(view.falls, rule);
    }

    /** Promise 16. */
    public int sides(int literal, int what) {
        if (!isLiteral(literal) || !isYesOrNo(what)) {
            return BAD;
        }
        View view = settled().view;
        return what == 0 ? view.threats(literal) : view.team(literal);
    }

    /** Promise 17. */
    public int proof(int literal, int tag, int k) {
        if (!isLiteral(literal) || !isTag(tag) || k < -1) {
            return BAD;
        }
        if (settled().roundOf(tag, literal) == 0) {
            return NOT;
        }
        chain.build(court, rounds, tag, literal);
        if (k >= chain.length) {
            return NOT;
        }
        return k < 0 ? chain.length : 100 * chain.tagAt(k) + chain.literalAt(k);
    }

    /** Promise 18. */
    public int prints(int literal, int tag) {
        if (literal == -1) {
            sheet.printRules(court);
            return sheet.length;
        }
        if (!isLiteral(literal) || !isTag(tag)) {
            return BAD;
        }
        if (settled().roundOf(tag, literal) == 0) {
            return NOT;
        }
        chain.build(court, rounds, tag, literal);
        sheet.printProof(chain);
        return sheet.length;
    }

    /** Promise 19. */
    public int paper(int i) {
        if (i < 0) {
            return BAD;
        }
        return i < sheet.length ? sheet.bytes[i] : NOT;
    }

    // ---- in thought

    /** Promise 20. */
    public int would(int literal, int fact, int is) {
        if (!isLiteral(literal) || !isLiteral(fact) || !isYesOrNo(is)) {
            return BAD;
        }
        thought.copyFrom(court);
        thought.facts = withBit(court.facts, fact, is);
        thoughtRounds.come(thought);
        return thoughtRounds.tagsOf(literal);
    }

    /** Promise 21. */
    public int key(int literal) {
        if (!isLiteral(literal)) {
            return BAD;
        }
        if (settled().roundOf(LIKELY, literal) != 0) {
            return STATE;
        }
        thought.copyFrom(court);
        for (int q = 0; q < LITERALS; q++) {
            thought.facts = withBit(court.facts, q, 1);
            if (q != literal && !has(court.facts, q) && comesInThought(LIKELY, literal)) {
                return q;
            }
        }
        return NOT;
    }

    /** Promise 22. */
    public int hinges(int literal, int tag) {
        if (!isLiteral(literal) || !isTag(tag)) {
            return BAD;
        }
        boolean comes = settled().roundOf(tag, literal) != 0;
        int found = 0;
        thought.copyFrom(court);
        for (int r = 0; r < court.size; r++) {
            thought.shut = withBit(court.shut, r, 1);
            if (!has(court.shut, r) && comesInThought(tag, literal) != comes) {
                found |= 1 << r;
            }
        }
        return found;
    }

    /** Promise 23. */
    public int least(int rule, int literal) {
        if (!court.hasRule(rule) || !isLiteral(literal)) {
            return BAD;
        }
        thought.copyFrom(court);
        for (int v = 0; v <= STRONGEST; v++) {
            thought.power[rule] = v;
            if (comesInThought(LIKELY, literal)) {
                return v;
            }
        }
        return NOT;
    }

    /** Promise 24. */
    public int lots(int literal, int tag, int n, int z) {
        if (!isLiteral(literal) || !isTag(tag) || n < 1 || n > MOST_COURTS) {
            return BAD;
        }
        int seed = z;
        int times = 0;
        thought.copyFrom(court);
        for (int i = 0; i < n; i++) {
            thought.facts = 0;
            for (int atom = 0; atom < ATOMS; atom++) {
                seed = nextSeed(seed);
                thought.facts |= factByDraw(atom, drawBelowThree(seed));
            }
            if (comesInThought(tag, literal)) {
                times++;
            }
        }
        return times;
    }

    /** Promise 25. */
    public int judge(int list, int p, int tag) {
        if (!isList(list) || p < 0 || !isTag(tag)) {
            return BAD;
        }
        if (!rows.holds(list)) {
            return NOTHING;
        }
        for (int q = 0; q < LITERALS; q++) {
            // The place is compared by what is left behind p: p + q could wrap around.
            if (p >= rows.size[list] - q) {
                return 100 + q;
            }
            if (rows.at(list, p + q) != settled().roundOf(tag, q)) {
                return q;
            }
        }
        return NOT;
    }

    // ---- rows, changes, the image

    /** Promise 26. */
    public int list(int list, int n) {
        if (!isList(list) || n > LIST_PLACES) {
            return BAD;
        }
        if (n < 0) {
            return BELOW;
        }
        rows.make(list, n);
        return 1;
    }

    /** Promise 27. */
    public int set(int list, int i, int v) {
        if (!isList(list)) {
            return BAD;
        }
        if (!rows.holds(list)) {
            return NOTHING;
        }
        if (!rows.hasPlace(list, i)) {
            return BEYOND;
        }
        rows.put(list, i, v);
        return 1;
    }

    /** Promise 28. */
    public long get(int list, int i) {
        if (!isList(list) || !rows.holds(list) || !rows.hasPlace(list, i)) {
            return NO;
        }
        return rows.at(list, i);
    }

    /** Promise 29. */
    public int undo() {
        if (!history.stepBack(court)) {
            return STATE;
        }
        isSettled = false;
        return history.done;
    }

    /** Promise 30. */
    public int redo() {
        if (!history.stepOn(court)) {
            return STATE;
        }
        isSettled = false;
        return history.undone;
    }

    /** Promise 31. */
    public int image() {
        kept.copyFrom(court);
        isKept = true;
        return kept.size;
    }

    /** Promise 32. */
    public int back() {
        if (!isKept) {
            return STATE;
        }
        court.copyFrom(kept);
        restart();
        return court.size;
    }

    // ---- what several of them use

    private void changed() {
        history.keep(court);
        isSettled = false;
    }

    private void restart() {
        history.restart(court);
        isSettled = false;
    }

    /** The rounds of the court as it is: kept until the next change, since most calls only ask. */
    private Rounds settled() {
        if (!isSettled) {
            rounds.come(court);
            isSettled = true;
        }
        return rounds;
    }

    private boolean comesInThought(int tag, int literal) {
        thoughtRounds.come(thought);
        return thoughtRounds.roundOf(tag, literal) != 0;
    }

    private static boolean isLiteral(int literal) {
        return literal >= 0 && literal < LITERALS;
    }

    private static boolean areLiterals(int bits) {
        return bits >= 0 && bits <= ALL_LITERALS;
    }

    private static boolean isTag(int tag) {
        return tag >= 0 && tag < TAGS;
    }

    private static boolean isStrength(int v) {
        return v >= 0 && v <= STRONGEST;
    }

    private static boolean isYesOrNo(int is) {
        return is == 0 || is == 1;
    }

    private static boolean isList(int list) {
        return list >= 0 && list < LISTS;
    }

    private static int otherOf(int literal) {
        return literal < ATOMS ? literal + ATOMS : literal - ATOMS;
    }

    private static boolean has(int bits, int i) {
        return (bits >> i & 1) == 1;
    }

    private static int bit(int bits, int i) {
        return bits >> i & 1;
    }

    private static int withBit(int bits, int i, int is) {
        return is == 1 ? bits | 1 << i : bits & ~(1 << i);
    }

    private static int lowestBit(int bits) {
        return bits & -bits;
    }

    /** The first rule of some; RULES, if there is none. */
    private static int firstRule(int bits) {
        int rule = 0;
        while (rule < RULES && !has(bits, rule)) {
            rule++;
        }
        return rule;
    }

    private static int nextSeed(int seed) {
        return seed * 1103515245 + 12345;
    }

    private static int drawBelowThree(int seed) {
        return (seed & 0x7fffffff) / 65536 % 3;
    }

    private static int factByDraw(int atom, int draw) {
        if (draw == 0) {
            return 1 << atom;
        }
        return draw == 1 ? 1 << otherOf(atom) : 0;
    }

    /** Facts, rules and pairs: all that changes alter and the image keeps. */
    private static final class Court {
        final int[] kind = new int[RULES];
        final int[] head = new int[RULES];
        final int[] body = new int[RULES];
        final int[] excepts = new int[RULES];
        final int[] power = new int[RULES];
        final int[] beats = new int[RULES];
        int facts = 0;
        int size = 0;
        int shut = 0;

        void clear() {
            facts = 0;
            size = 0;
            shut = 0;
        }

        void copyFrom(Court from) {
            System.arraycopy(from.kind, 0, kind, 0, RULES);
            System.arraycopy(from.head, 0, head, 0, RULES);
            System.arraycopy(from.body, 0, body, 0, RULES);
            System.arraycopy(from.excepts, 0, excepts, 0, RULES);
            System.arraycopy(from.power, 0, power, 0, RULES);
            System.arraycopy(from.beats, 0, beats, 0, RULES);
            facts = from.facts;
            size = from.size;
            shut = from.shut;
        }

        boolean hasRule(int rule) {
            return rule >= 0 && rule < size;
        }

        boolean add(int newKind, int newHead, int newBody, int newExcepts, int newPower) {
            if (size >= RULES) {
                return false;
            }
            kind[size] = newKind;
            head[size] = newHead;
            body[size] = newBody;
            excepts[size] = newExcepts;
            power[size] = newPower;
            beats[size] = 0;
            size++;
            return true;
        }

        boolean isTold(int rule, int other) {
            return has(beats[rule], other) || has(beats[other], rule);
        }

        /** The rules that a rule is ABOVE. */
        int rulesBelow(int rule) {
            int below = beats[rule];
            for (int r = 0; r < size; r++) {
                if (power[rule] > power[r] && !isTold(rule, r)) {
                    below |= 1 << r;
                }
            }
            return below;
        }

        int pairs() {
            int found = 0;
            for (int r = 0; r < size; r++) {
                found += Integer.bitCount(beats[r]);
            }
            return found;
        }
    }

    /** What rules do and which sentences hold by the tags that are known. Rules and literals are bits. */
    private static final class View {
        final int[] known = new int[TAGS];
        final int[] fresh = new int[TAGS];
        final int[] strictFor = new int[LITERALS];
        final int[] forwardFor = new int[LITERALS];
        final int[] allFor = new int[LITERALS];
        final int[] above = new int[RULES];
        final int[] reach = new int[RULES];
        int facts = 0;
        int applies = 0;
        int falls = 0;
        int sureBodies = 0;
        int neverBodies = 0;

        /** Takes over the facts and the rules that are ON; no tag is known. */
        void enter(Court court) {
            Arrays.fill(known, 0);
            Arrays.fill(strictFor, 0);
            Arrays.fill(forwardFor, 0);
            Arrays.fill(allFor, 0);
            Arrays.fill(above, 0);
            facts = court.facts;
            for (int r = 0; r < court.size; r++) {
                above[r] = court.rulesBelow(r);
                if (!has(court.shut, r)) {
                    enterRule(1 << r, court.kind[r], court.head[r]);
                }
            }
        }

        private void enterRule(int rule, int kind, int head) {
            allFor[head] |= rule;
            if (kind != BAR) {
                forwardFor[head] |= rule;
            }
            if (kind == STRICT) {
                strictFor[head] |= rule;
            }
        }

        /** Finds again what each rule, OFF ones too, does by the known tags. */
        void weigh(Court court) {
            applies = 0;
            falls = 0;
            sureBodies = 0;
            neverBodies = 0;
            for (int r = 0; r < court.size; r++) {
                weighRule(1 << r, court.body[r], court.excepts[r]);
            }
        }

        private void weighRule(int rule, int body, int excepts) {
            if ((body & ~known[LIKELY]) == 0 && (excepts & ~known[UNLIKELY]) == 0) {
                applies |= rule;
            }
            if ((body & known[UNLIKELY]) != 0 || (excepts & known[LIKELY]) != 0) {
                falls |= rule;
            }
            if ((body & ~known[SURE]) == 0) {
                sureBodies |= rule;
            }
            if ((body & known[NEVER]) != 0) {
                neverBodies |= rule;
            }
        }

        /** Reads all sentences before a tag of this round is known: it counts from the next round on. */
        boolean brings() {
            fresh[SURE] = sureOnes() & ~known[SURE];
            fresh[NEVER] = neverOnes() & ~known[NEVER];
            fresh[LIKELY] = likelyOnes() & ~known[LIKELY];
            fresh[UNLIKELY] = unlikelyOnes() & ~known[UNLIKELY];
            return (fresh[SURE] | fresh[NEVER] | fresh[LIKELY] | fresh[UNLIKELY]) != 0;
        }

        private int sureOnes() {
            int found = facts;
            for (int q = 0; q < LITERALS; q++) {
                if ((strictFor[q] & sureBodies) != 0) {
                    found |= 1 << q;
                }
            }
            return found;
        }

        private int neverOnes() {
            int found = 0;
            for (int q = 0; q < LITERALS; q++) {
                if (!has(facts, q) && (strictFor[q] & ~neverBodies) == 0) {
                    found |= 1 << q;
                }
            }
            return found;
        }

        private int likelyOnes() {
            int found = known[SURE];
            for (int q = 0; q < LITERALS; q++) {
                if (team(q) != 0 && has(known[NEVER], otherOf(q)) && threats(q) == 0) {
                    found |= 1 << q;
                }
            }
            return found;
        }

        private int unlikelyOnes() {
            int found = 0;
            for (int q = 0; q < LITERALS; q++) {
                if (unfallen(q) == 0 || has(known[SURE], otherOf(q)) || victors(q) != 0) {
                    found |= 1 << q;
                }
            }
            return found & known[NEVER];
        }

        int team(int q) {
            return forwardFor[q] & applies;
        }

        int threats(int q) {
            return allFor[otherOf(q)] & ~falls & ~belowAny(team(q));
        }

        /** The forward rules for a literal that do not fall. */
        int unfallen(int q) {
            return forwardFor[q] & ~falls;
        }

        /** The rules for the other literal that apply and are not beaten. */
        int victors(int q) {
            return allFor[otherOf(q)] & applies & ~belowAny(unfallen(q));
        }

        private int belowAny(int rules) {
            int below = 0;
            for (int r = 0; r < RULES; r++) {
                if ((rules >> r & 1) == 1) {
                    below |= above[r];
                }
            }
            return below;
        }

        int missing() {
            return ALL_LITERALS & ~(known[LIKELY] | known[UNLIKELY]);
        }

        int likelyBothWays() {
            int likely = known[LIKELY];
            return likely & (likely << ATOMS | likely >> ATOMS);
        }

        int circles() {
            System.arraycopy(above, 0, reach, 0, RULES);
            for (int by = 0; by < RULES; by++) {
                for (int r = 0; r < RULES; r++) {
                    if (has(reach[r], by)) {
                        reach[r] |= reach[by];
                    }
                }
            }
            int found = 0;
            for (int r = 0; r < RULES; r++) {
                found |= reach[r] & 1 << r;
            }
            return found;
        }
    }

    /** The round in which each tag of each literal came, and the view by all of them. */
    private static final class Rounds {
        final View view = new View();
        final int[] came = new int[ALL_TAGS];
        int last = 0;

        void come(Court court) {
            Arrays.fill(came, 0);
            last = 0;
            view.enter(court);
            view.weigh(court);
            for (int round = 1; round <= ALL_TAGS && view.brings(); round++) {
                last = round;
                note();
                view.weigh(court);
            }
        }

        private void note() {
            for (int tag = 0; tag < TAGS; tag++) {
                int fresh = view.fresh[tag];
                view.known[tag] |= fresh;
                for (int q = 0; q < LITERALS; q++) {
                    if (has(fresh, q)) {
                        came[tag * LITERALS + q] = last;
                    }
                }
            }
        }

        /** The round of a tag; 0, if it did not come. */
        int roundOf(int tag, int q) {
            return came[tag * LITERALS + q];
        }

        int broughtBy(int tag, int round) {
            int found = 0;
            for (int q = 0; q < LITERALS; q++) {
                if (roundOf(tag, q) == round) {
                    found |= 1 << q;
                }
            }
            return found;
        }

        int broughtAheadOf(int tag, int round) {
            int found = 0;
            for (int q = 0; q < LITERALS; q++) {
                int own = roundOf(tag, q);
                if (own > 0 && own < round) {
                    found |= 1 << q;
                }
            }
            return found;
        }

        int tagsOf(int q) {
            int found = 0;
            for (int tag = 0; tag < TAGS; tag++) {
                if (roundOf(tag, q) != 0) {
                    found |= 1 << tag;
                }
            }
            return found;
        }

        int howMany() {
            int found = 0;
            for (int tag = 0; tag < TAGS; tag++) {
                found += Integer.bitCount(view.known[tag]);
            }
            return found;
        }
    }

    /** One tag with all that it needs, each once. */
    private static final class Proof {
        final View view = new View();
        final int[] wanted = new int[TAGS];
        final int[] steps = new int[ALL_TAGS];
        int length = 0;

        /** Goes from the tag's round down: needs lie in rounds ahead, so each round is whole when it is reached. */
        void build(Court court, Rounds rounds, int tag, int q) {
            int highest = rounds.roundOf(tag, q);
            Arrays.fill(wanted, 0);
            wanted[tag] = 1 << q;
            view.enter(court);
            for (int round = highest; round > 0; round--) {
                lookAheadOf(round, court, rounds);
                wantNeeds(round, court, rounds);
            }
            length = 0;
            for (int round = 1; round <= highest; round++) {
                listRound(round, rounds);
            }
        }

        private void lookAheadOf(int round, Court court, Rounds rounds) {
            for (int tag = 0; tag < TAGS; tag++) {
                view.known[tag] = rounds.broughtAheadOf(tag, round);
            }
            view.weigh(court);
        }

        private void wantNeeds(int round, Court court, Rounds rounds) {
            for (int q = 0; q < LITERALS; q++) {
                if (isWanted(SURE, q, round, rounds)) {
                    wantForSure(q, court);
                }
                if (isWanted(NEVER, q, round, rounds)) {
                    wantForNever(q, court);
                }
                if (isWanted(LIKELY, q, round, rounds)) {
                    wantForLikely(q, court);
                }
                if (isWanted(UNLIKELY, q, round, rounds)) {
                    wantForUnlikely(q, court);
                }
            }
        }

        private boolean isWanted(int tag, int q, int round, Rounds rounds) {
            return has(wanted[tag], q) && rounds.roundOf(tag, q) == round;
        }

        private void wantForSure(int q, Court court) {
            int rule = firstRule(view.strictFor[q] & view.sureBodies);
            if (!has(view.facts, q) && rule < RULES) {
                wanted[SURE] |= court.body[rule];
            }
        }

        private void wantForNever(int q, Court court) {
            for (int r = 0; r < RULES; r++) {
                if (has(view.strictFor[q], r)) {
                    wanted[NEVER] |= lowestBit(court.body[r] & view.known[NEVER]);
                }
            }
        }

        private void wantForLikely(int q, Court court) {
            if (has(view.known[SURE], q)) {
                wanted[SURE] |= 1 << q;
                return;
            }
            int other = otherOf(q);
            wantForce(firstRule(view.team(q)), court);
            wanted[NEVER] |= 1 << other;
            for (int r = 0; r < RULES; r++) {
                if (has(view.allFor[other] & view.falls, r)) {
                    wantFall(r, court);
                } else if (has(view.allFor[other], r)) {
                    wantForce(firstRule(allAbove(view.team(q), r)), court);
                }
            }
        }

        private void wantForUnlikely(int q, Court court) {
            wanted[NEVER] |= 1 << q;
            if (view.unfallen(q) == 0) {
                wantFalls(view.forwardFor[q], court);
            } else if (has(view.known[SURE], otherOf(q))) {
                wanted[SURE] |= 1 << otherOf(q);
            } else {
                int victor = firstRule(view.victors(q));
                wantForce(victor, court);
                wantFalls(allAbove(view.forwardFor[q], victor), court);
            }
        }

        private int allAbove(int rules, int rule) {
            int found = 0;
            for (int r = 0; r < RULES; r++) {
                if (has(rules, r) && has(view.above[r], rule)) {
                    found |= 1 << r;
                }
            }
            return found;
        }

        private void wantForce(int rule, Court court) {
            if (rule < RULES) {
                wanted[LIKELY] |= court.body[rule];
                wanted[UNLIKELY] |= court.excepts[rule];
            }
        }

        private void wantFalls(int rules, Court court) {
            for (int r = 0; r < RULES; r++) {
                if (has(rules, r)) {
                    wantFall(r, court);
                }
            }
        }

        private void wantFall(int rule, Court court) {
            int unlikely = court.body[rule] & view.known[UNLIKELY];
            if (unlikely != 0) {
                wanted[UNLIKELY] |= lowestBit(unlikely);
            } else {
                wanted[LIKELY] |= lowestBit(court.excepts[rule] & view.known[LIKELY]);
            }
        }

        private void listRound(int round, Rounds rounds) {
            for (int tag = 0; tag < TAGS; tag++) {
                for (int q = 0; q < LITERALS; q++) {
                    if (isWanted(tag, q, round, rounds) && length < ALL_TAGS) {
                        steps[length] = tag * LITERALS + q;
                        length++;
                    }
                }
            }
        }

        int tagAt(int k) {
            return steps[k] / LITERALS;
        }

        int literalAt(int k) {
            return steps[k] % LITERALS;
        }
    }

    /** The latest states: kept[done] is how it is now, those ahead of it can be undone, those behind done again. */
    private static final class History {
        final Court[] kept = new Court[CHANGES + 1];
        int done = 0;
        int undone = 0;

        History() {
            for (int i = 0; i <= CHANGES; i++) {
                kept[i] = new Court();
            }
        }

        void restart(Court now) {
            done = 0;
            undone = 0;
            kept[0].copyFrom(now);
        }

        void keep(Court now) {
            if (done < CHANGES) {
                done++;
            } else {
                dropOldest();
            }
            undone = 0;
            kept[done].copyFrom(now);
        }

        private void dropOldest() {
            Court oldest = kept[0];
            for (int i = 0; i < CHANGES; i++) {
                kept[i] = kept[i + 1];
            }
            kept[CHANGES] = oldest;
        }

        boolean stepBack(Court now) {
            if (done == 0) {
                return false;
            }
            done--;
            undone++;
            now.copyFrom(kept[done]);
            return true;
        }

        boolean stepOn(Court now) {
            if (undone == 0 || done >= CHANGES) {
                return false;
            }
            done++;
            undone--;
            now.copyFrom(kept[done]);
            return true;
        }
    }

    /** The tape, and the statements that it was split into. */
    private static final class Words {
        private static final int NO_BYTE = 0, NONE = -1;
        private static final int FACT_TOLD = 3, PAIR_TOLD = 4;

        final int[] tape = new int[TAPE_BYTES];
        final int[] sort = new int[MOST_STATEMENTS];
        final int[] head = new int[MOST_STATEMENTS];
        final int[] body = new int[MOST_STATEMENTS];
        final int[] excepts = new int[MOST_STATEMENTS];
        final int[] power = new int[MOST_STATEMENTS];
        final int[] begins = new int[MOST_STATEMENTS];
        int length = 0;
        int at = 0;
        int told = 0;

        boolean add(int letter) {
            if (length >= TAPE_BYTES) {
                return false;
            }
            tape[length] = letter;
            length++;
            return true;
        }

        /** Splits the tape into statements; if it is no words, at is the first byte with which none go on. */
        boolean split() {
            at = 0;
            told = 0;
            while (told < MOST_STATEMENTS) {
                begins[told] = at;
                if (!readStatement()) {
                    return false;
                }
                told++;
                if (at >= length) {
                    return true;
                }
                if (!take(';')) {
                    return false;
                }
            }
            return false;
        }

        private boolean readStatement() {
            if (take('!')) {
                return readFact();
            }
            return isFigure(next()) ? readPair() : readRule();
        }

        private boolean readFact() {
            sort[told] = FACT_TOLD;
            head[told] = readLiteral();
            return head[told] != NONE;
        }

        private boolean readPair() {
            sort[told] = PAIR_TOLD;
            head[told] = readNumber();
            if (!take('>')) {
                return false;
            }
            body[told] = readNumber();
            return body[told] != NONE;
        }

        private boolean readRule() {
            body[told] = startsWithArrow() ? 0 : readLiterals();
            if (body[told] == NONE) {
                return false;
            }
            sort[told] = readArrow();
            if (sort[told] == NONE) {
                return false;
            }
            head[told] = readLiteral();
            if (head[told] == NONE) {
                return false;
            }
            excepts[told] = take('?') ? readLiterals() : 0;
            if (excepts[told] == NONE) {
                return false;
            }
            power[told] = take('*') ? readFigure() : 0;
            return power[told] != NONE;
        }

        /** A ~ is an arrow's only with > behind it: else a literal begins. */
        private boolean startsWithArrow() {
            int letter = next();
            if (letter == '~') {
                return at + 1 < length && tape[at + 1] == '>';
            }
            return letter == '-' || letter == '=';
        }

        private int readArrow() {
            int kind = NONE;
            if (take('-')) {
                kind = STRICT;
            } else if (take('=')) {
                kind = SOFT;
            } else if (take('~')) {
                kind = BAR;
            }
            return kind != NONE && take('>') ? kind : NONE;
        }

        private int readLiterals() {
            int bits = 0;
            boolean more = true;
            for (int i = 0; i < TAPE_BYTES && more; i++) {
                int q = readLiteral();
                if (q == NONE) {
                    return NONE;
                }
                bits |= 1 << q;
                more = take(',');
            }
            return bits;
        }

        private int readLiteral() {
            boolean isNot = take('~');
            int letter = next();
            if (letter < 'a' || letter > 'j') {
                return NONE;
            }
            at++;
            int atom = letter - 'a';
            return isNot ? otherOf(atom) : atom;
        }

        private int readNumber() {
            int number = readFigure();
            if (number == NONE || !isFigure(next())) {
                return number;
            }
            return 10 * number + readFigure();
        }

        private int readFigure() {
            int letter = next();
            if (!isFigure(letter)) {
                return NONE;
            }
            at++;
            return letter - '0';
        }

        private boolean take(int letter) {
            if (at >= length || tape[at] != letter) {
                return false;
            }
            at++;
            return true;
        }

        private int next() {
            return at < length ? tape[at] : NO_BYTE;
        }

        private static boolean isFigure(int letter) {
            return letter >= '0' && letter <= '9';
        }

        /** Lets a statement come to a court, if it can. */
        boolean tell(int i, Court court) {
            switch (sort[i]) {
                case FACT_TOLD: return tellFact(head[i], court);
                case PAIR_TOLD: return tellPair(head[i], body[i], court);
                default: return tellRule(i, court);
            }
        }

        private boolean tellFact(int q, Court court) {
            if (has(court.facts, q)) {
                return false;
            }
            court.facts |= 1 << q;
            return true;
        }

        private boolean tellPair(int rule, int other, Court court) {
            if (!court.hasRule(rule) || !court.hasRule(other) || rule == other || court.isTold(rule, other)) {
                return false;
            }
            court.beats[rule] |= 1 << other;
            return true;
        }

        private boolean tellRule(int i, Court court) {
            if (sort[i] == STRICT && excepts[i] != 0) {
                return false;
            }
            return court.add(sort[i], head[i], body[i], excepts[i], power[i]);
        }
    }

    /** What was printed last. */
    private static final class Paper {
        private static final char[] MARKS = {'!', '#', '+', '-'};
        private static final char[] ARROWS = {'-', '=', '~'};

        final int[] bytes = new int[PAPER_BYTES];
        int length = 0;

        void printProof(Proof proof) {
            length = 0;
            for (int k = 0; k < proof.length; k++) {
                put(MARKS[proof.tagAt(k)]);
                putLiteral(proof.literalAt(k));
                put(';');
            }
        }

        void printRules(Court court) {
            length = 0;
            for (int r = 0; r < court.size; r++) {
                putLiterals(court.body[r]);
                put(ARROWS[court.kind[r]]);
                put('>');
                putLiteral(court.head[r]);
                if (court.excepts[r] != 0) {
                    put('?');
                    putLiterals(court.excepts[r]);
                }
                put('*');
                put('0' + court.power[r]);
                put(';');
            }
        }

        private void putLiterals(int bits) {
            boolean isFirst = true;
            for (int q = 0; q < LITERALS; q++) {
                if (has(bits, q)) {
                    if (!isFirst) {
                        put(',');
                    }
                    isFirst = false;
                    putLiteral(q);
                }
            }
        }

        private void putLiteral(int q) {
            if (q >= ATOMS) {
                put('~');
                put('a' + otherOf(q));
            } else {
                put('a' + q);
            }
        }

        private void put(int letter) {
            if (length < PAPER_BYTES) {
                bytes[length] = letter;
                length++;
            }
        }
    }

    /** The lists; one that holds nothing has the size ABSENT, which a row of no ints has not. */
    private static final class Rows {
        private static final int ABSENT = -1;

        final int[][] values = new int[LISTS][LIST_PLACES];
        final int[] size = {ABSENT, ABSENT, ABSENT, ABSENT};

        boolean holds(int list) {
            return size[list] != ABSENT;
        }

        boolean hasPlace(int list, int i) {
            return i >= 0 && i < size[list];
        }

        void make(int list, int n) {
            Arrays.fill(values[list], 0);
            size[list] = n;
        }

        void put(int list, int i, int v) {
            values[list][i] = v;
        }

        int at(int list, int i) {
            return values[list][i];
        }
    }
}
