import java.util.ArrayList;
import java.util.Arrays;
import java.util.HashSet;
import java.util.List;
import java.util.Set;
import java.util.TreeSet;
import java.util.regex.Pattern;

/**
 * The document read once more, as slowly and plainly as can be, with sets, recursion and patterns: random runs are
 * compared with it. It shares no code and no way of working with RuleCourt.
 */
final class PlainCourt {
    private static final int BAD = -1, NOT = -2, FULL = -3, STATE = -5, NOTHING = -11, BEYOND = -13, BELOW = -14;

    private static final class Rule {
        int kind, head, strength;
        boolean off;
        Set<Integer> body = new TreeSet<>();
        Set<Integer> exceptions = new TreeSet<>();

        Rule copy() {
            Rule r = new Rule();
            r.kind = kind;
            r.head = head;
            r.strength = strength;
            r.off = off;
            r.body = new TreeSet<>(body);
            r.exceptions = new TreeSet<>(exceptions);
            return r;
        }
    }

    private static final class Case {
        Set<Integer> facts = new TreeSet<>();
        List<Rule> rules = new ArrayList<>();
        Set<List<Integer>> pairs = new HashSet<>();

        Case copy() {
            Case c = new Case();
            c.facts = new TreeSet<>(facts);
            for (Rule r : rules) {
                c.rules.add(r.copy());
            }
            c.pairs = new HashSet<>(pairs);
            return c;
        }

        boolean above(int r, int s) {
            if (pairs.contains(List.of(r, s))) {
                return true;
            }
            return !pairs.contains(List.of(s, r)) && rules.get(r).strength > rules.get(s).strength;
        }

        List<Integer> rulesFor(int q, boolean forwardOnly, boolean strictOnly) {
            List<Integer> found = new ArrayList<>();
            for (int r = 0; r < rules.size(); r++) {
                Rule rule = rules.get(r);
                if (!rule.off && rule.head == q && (!forwardOnly || rule.kind < 2) && (!strictOnly || rule.kind == 0)) {
                    found.add(r);
                }
            }
            return found;
        }
    }

    /** The tags of a case; asked always with a round: only what came ahead of it counts. */
    private static final class Tags {
        final Case c;
        final int[][] came = new int[4][20];
        int last = 0;

        Tags(Case c) {
            this.c = c;
            for (int round = 1;; round++) {
                List<int[]> fresh = new ArrayList<>();
                for (int tag = 0; tag < 4; tag++) {
                    for (int q = 0; q < 20; q++) {
                        if (came[tag][q] == 0 && holds(tag, q, round)) {
                            fresh.add(new int[] {tag, q});
                        }
                    }
                }
                if (fresh.isEmpty()) {
                    return;
                }
                for (int[] one : fresh) {
                    came[one[0]][one[1]] = round;
                }
                last = round;
            }
        }

        boolean known(int tag, int q, int ahead) {
            return came[tag][q] > 0 && came[tag][q] < ahead;
        }

        boolean applies(int r, int ahead) {
            for (int q : c.rules.get(r).body) {
                if (!known(2, q, ahead)) {
                    return false;
                }
            }
            for (int q : c.rules.get(r).exceptions) {
                if (!known(3, q, ahead)) {
                    return false;
                }
            }
            return true;
        }

        boolean falls(int r, int ahead) {
            for (int q : c.rules.get(r).body) {
                if (known(3, q, ahead)) {
                    return true;
                }
            }
            for (int q : c.rules.get(r).exceptions) {
                if (known(2, q, ahead)) {
                    return true;
                }
            }
            return false;
        }

        boolean allSure(int r, int ahead) {
            return c.rules.get(r).body.stream().allMatch(q -> known(0, q, ahead));
        }

        boolean someNever(int r, int ahead) {
            return c.rules.get(r).body.stream().anyMatch(q -> known(1, q, ahead));
        }

        boolean beatenByTeam(int r, int q, int ahead) {
            return c.rulesFor(q, true, false).stream().anyMatch(s -> applies(s, ahead) && c.above(s, r));
        }

        boolean unbeaten(int r, int q, int ahead) {
            return c.rulesFor(q, true, false).stream().allMatch(s -> falls(s, ahead) || !c.above(s, r));
        }

        boolean holds(int tag, int q, int ahead) {
            int other = (q + 10) % 20;
            List<Integer> forward = c.rulesFor(q, true, false);
            List<Integer> against = c.rulesFor(other, false, false);
            switch (tag) {
                case 0:
                    return c.facts.contains(q)
                        || c.rulesFor(q, false, true).stream().anyMatch(r -> allSure(r, ahead));
                case 1:
                    return !c.facts.contains(q)
                        && c.rulesFor(q, false, true).stream().allMatch(r -> someNever(r, ahead));
                case 2:
                    return known(0, q, ahead)
                        || forward.stream().anyMatch(r -> applies(r, ahead)) && known(1, other, ahead)
                        && against.stream().allMatch(r -> falls(r, ahead) || beatenByTeam(r, q, ahead));
                default:
                    return known(1, q, ahead)
                        && (forward.stream().allMatch(r -> falls(r, ahead))
                        || known(0, other, ahead)
                        || against.stream().anyMatch(r -> applies(r, ahead) && unbeaten(r, q, ahead)));
            }
        }

        void need(int tag, int q, Set<List<Integer>> proof) {
            int round = came[tag][q];
            if (round == 0) {
                throw new IllegalStateException("needs what did not come");
            }
            if (!proof.add(List.of(round, tag, q))) {
                return;
            }
            int other = (q + 10) % 20;
            List<Integer> forward = c.rulesFor(q, true, false);
            List<Integer> against = c.rulesFor(other, false, false);
            switch (tag) {
                case 0:
                    if (!c.facts.contains(q)) {
                        int r = c.rulesFor(q, false, true).stream().filter(s -> allSure(s, round)).findFirst().get();
                        c.rules.get(r).body.forEach(p -> need(0, p, proof));
                    }
                    break;
                case 1:
                    for (int r : c.rulesFor(q, false, true)) {
                        need(1, c.rules.get(r).body.stream().filter(p -> known(1, p, round)).findFirst().get(), proof);
                    }
                    break;
                case 2:
                    if (known(0, q, round)) {
                        need(0, q, proof);
                        break;
                    }
                    force(forward.stream().filter(r -> applies(r, round)).findFirst().get(), proof);
                    need(1, other, proof);
                    for (int r : against) {
                        if (falls(r, round)) {
                            fall(r, round, proof);
                        } else {
                            force(forward.stream().filter(s -> applies(s, round) && c.above(s, r)).findFirst().get(),
                                proof);
                        }
                    }
                    break;
                default:
                    need(1, q, proof);
                    if (forward.stream().allMatch(r -> falls(r, round))) {
                        forward.forEach(r -> fall(r, round, proof));
                    } else if (known(0, other, round)) {
                        need(0, other, proof);
                    } else {
                        int r = against.stream().filter(s -> applies(s, round) && unbeaten(s, q, round))
                            .findFirst().get();
                        force(r, proof);
                        forward.stream().filter(s -> c.above(s, r)).forEach(s -> fall(s, round, proof));
                    }
            }
        }

        void force(int r, Set<List<Integer>> proof) {
            c.rules.get(r).body.forEach(p -> need(2, p, proof));
            c.rules.get(r).exceptions.forEach(p -> need(3, p, proof));
        }

        void fall(int r, int round, Set<List<Integer>> proof) {
            for (int p : c.rules.get(r).body) {
                if (known(3, p, round)) {
                    need(3, p, proof);
                    return;
                }
            }
            for (int p : c.rules.get(r).exceptions) {
                if (known(2, p, round)) {
                    need(2, p, proof);
                    return;
                }
            }
            throw new IllegalStateException("it does not fall");
        }

        List<List<Integer>> proof(int tag, int q) {
            Set<List<Integer>> found = new HashSet<>();
            need(tag, q, found);
            List<List<Integer>> sorted = new ArrayList<>(found);
            sorted.sort((a, b) -> {
                for (int i = 0; i < 3; i++) {
                    if (!a.get(i).equals(b.get(i))) {
                        return a.get(i) - b.get(i);
                    }
                }
                return 0;
            });
            return sorted;
        }
    }

    private static final String LITERAL = "~?[a-j]";
    private static final String LITERALS = LITERAL + "(," + LITERAL + ")*";
    private static final String STATEMENT = "(!" + LITERAL + "|(" + LITERALS + ")?[-=~]>" + LITERAL + "([?]" + LITERALS
        + ")?([*][0-9])?|[0-9]{1,2}>[0-9]{1,2})";
    private static final Pattern WORDS = Pattern.compile(STATEMENT + "(;" + STATEMENT + ")*", Pattern.DOTALL);
    /** Whatever can be begun can be ended by one of these. */
    private static final String[] ENDS = {"", "a", "!a", "a->a", "->a", ">a", "0", ">0"};

    private Case now = new Case();
    private Case image = null;
    private List<Case> past = new ArrayList<>();
    private List<Case> future = new ArrayList<>();
    private StringBuilder tape = new StringBuilder();
    private String paper = "";
    private final int[][] lists = new int[4][];
    private final int[] z = new int[1];

    private void changing() {
        past.add(now.copy());
        if (past.size() > 12) {
            past.remove(0);
        }
        future.clear();
    }

    private static boolean literal(int q) {
        return q >= 0 && q < 20;
    }

    private boolean rule(int r) {
        return r >= 0 && r < now.rules.size();
    }

    private static Set<Integer> set(int bits) {
        Set<Integer> found = new TreeSet<>();
        for (int q = 0; q < 32; q++) {
            if ((bits & 1 << q) != 0) {
                found.add(q);
            }
        }
        return found;
    }

    private static int bits(Iterable<Integer> places) {
        int found = 0;
        for (int p : places) {
            found |= 1 << p;
        }
        return found;
    }

    private static <T> void put(Set<T> places, T one, int is) {
        if (is == 1) {
            places.add(one);
        } else {
            places.remove(one);
        }
    }

    int begin() {
        int before = now.rules.size();
        now = new Case();
        past.clear();
        future.clear();
        return before;
    }

    int fact(int q, int is) {
        if (!literal(q) || is < 0 || is > 1) {
            return BAD;
        }
        changing();
        int before = now.facts.contains(q) ? 1 : 0;
        put(now.facts, q, is);
        return before;
    }

    int rule(int kind, int head, int body, int exceptions, int strength) {
        boolean bad = kind < 0 || kind > 2 || !literal(head) || body >>> 20 != 0 || exceptions >>> 20 != 0
            || strength < 0 || strength > 9 || kind == 0 && exceptions != 0;
        if (bad) {
            return BAD;
        }
        if (now.rules.size() == 16) {
            return FULL;
        }
        changing();
        Rule r = new Rule();
        r.kind = kind;
        r.head = head;
        r.body = set(body);
        r.exceptions = set(exceptions);
        r.strength = strength;
        now.rules.add(r);
        return now.rules.size() - 1;
    }

    int off(int r, int is) {
        if (!rule(r) || is < 0 || is > 1) {
            return BAD;
        }
        changing();
        int before = now.rules.get(r).off ? 1 : 0;
        now.rules.get(r).off = is == 1;
        return before;
    }

    int strength(int r, int v) {
        if (!rule(r) || v < 0 || v > 9) {
            return BAD;
        }
        changing();
        int before = now.rules.get(r).strength;
        now.rules.get(r).strength = v;
        return before;
    }

    int over(int r, int s, int is) {
        if (!rule(r) || !rule(s) || r == s || is < 0 || is > 1) {
            return BAD;
        }
        if (is == 1 && now.pairs.contains(List.of(s, r))) {
            return STATE;
        }
        changing();
        int before = now.pairs.contains(List.of(r, s)) ? 1 : 0;
        put(now.pairs, List.of(r, s), is);
        return before;
    }

    int feed(int letter) {
        if (letter < 1 || letter > 127) {
            return BAD;
        }
        if (tape.length() == 120) {
            return FULL;
        }
        tape.append((char) letter);
        return tape.length();
    }

    private static boolean goesOn(String start) {
        for (String end : ENDS) {
            if (WORDS.matcher(start + end).matches()) {
                return true;
            }
        }
        return false;
    }

    int reads() {
        String text = tape.toString();
        tape.setLength(0);
        if (!WORDS.matcher(text).matches()) {
            int good = text.length();
            while (good > 0 && !goesOn(text.substring(0, good))) {
                good--;
            }
            return -1000 - good;
        }
        Case before = now.copy();
        List<Case> oldPast = new ArrayList<>(past);
        List<Case> oldFuture = new ArrayList<>(future);
        int place = 0;
        int came = 0;
        for (String statement : text.split(";")) {
            if (!come(statement)) {
                now = before;
                past = oldPast;
                future = oldFuture;
                return -2000 - place;
            }
            came++;
            place += statement.length() + 1;
        }
        return came;
    }

    private static int literalOf(String text) {
        return text.charAt(0) == '~' ? text.charAt(1) - 'a' + 10 : text.charAt(0) - 'a';
    }

    private static int literalsOf(String text) {
        int found = 0;
        for (String one : text.split(",")) {
            found |= one.isEmpty() ? 0 : 1 << literalOf(one);
        }
        return found;
    }

    private boolean come(String statement) {
        if (statement.charAt(0) == '!') {
            int q = literalOf(statement.substring(1));
            return !now.facts.contains(q) && fact(q, 1) == 0;
        }
        if (Character.isDigit(statement.charAt(0))) {
            String[] two = statement.split(">");
            int r = Integer.parseInt(two[0]);
            int s = Integer.parseInt(two[1]);
            return !now.pairs.contains(List.of(r, s)) && over(r, s, 1) == 0;
        }
        int arrow = statement.indexOf('>') - 1;
        String body = statement.substring(0, arrow);
        String rest = statement.substring(arrow + 2);
        String strength = rest.contains("*") ? rest.substring(rest.indexOf('*') + 1) : "0";
        rest = rest.split("[*]")[0];
        String[] parts = rest.split("[?]");
        int exceptions = parts.length > 1 ? literalsOf(parts[1]) : 0;
        return rule("-=~".indexOf(statement.charAt(arrow)), literalOf(parts[0]), literalsOf(body), exceptions,
            Integer.parseInt(strength)) >= 0;
    }

    private boolean reaches(int from, int to, Set<Integer> seen) {
        for (int r = 0; r < now.rules.size(); r++) {
            if (now.above(from, r) && (r == to || seen.add(r) && reaches(r, to, seen))) {
                return true;
            }
        }
        return false;
    }

    int ruleOf(int r, int what) {
        if (!rule(r)) {
            return BAD;
        }
        Rule rule = now.rules.get(r);
        int over = 0;
        int above = 0;
        for (int s = 0; s < now.rules.size(); s++) {
            over |= now.pairs.contains(List.of(r, s)) ? 1 << s : 0;
            above |= now.above(r, s) ? 1 << s : 0;
        }
        int[] answers = {rule.kind, rule.head, bits(rule.body), bits(rule.exceptions), rule.strength,
            rule.off ? 1 : 0, over, above};
        return what < 0 || what > 7 ? BAD : answers[what];
    }

    int rulesFor(int q) {
        return literal(q) ? bits(now.rulesFor(q, false, false)) : BAD;
    }

    int count(int what) {
        Tags tags = new Tags(now);
        List<Integer> found = new ArrayList<>();
        switch (what) {
            case 0:
                return bits(now.facts);
            case 1:
                for (int r = 0; r < now.rules.size(); r++) {
                    if (reaches(r, r, new HashSet<>())) {
                        found.add(r);
                    }
                }
                return bits(found);
            case 2:
                for (int q = 0; q < 20; q++) {
                    if (tags.came[2][q] == 0 && tags.came[3][q] == 0) {
                        found.add(q);
                    }
                }
                return bits(found);
            case 3:
                for (int q = 0; q < 20; q++) {
                    if (tags.came[2][q] > 0 && tags.came[2][(q + 10) % 20] > 0) {
                        found.add(q);
                    }
                }
                return bits(found);
            case 4:
                return now.rules.size();
            case 5:
                return now.pairs.size();
            case 6:
                return (int) Arrays.stream(tags.came).flatMapToInt(Arrays::stream).filter(r -> r > 0).count();
            case 7:
                return tags.last;
            case 8:
                return past.size();
            case 9:
                return future.size();
            case 10:
                return tape.length();
            case 11:
                return paper.length();
            default:
                return BAD;
        }
    }

    private static boolean tagNumber(int tag) {
        return tag >= 0 && tag < 4;
    }

    int tag(int q, int tag) {
        return literal(q) && tagNumber(tag) ? new Tags(now).came[tag][q] : BAD;
    }

    int tagged(int tag, int round) {
        if (!tagNumber(tag) || round < 0) {
            return BAD;
        }
        Tags tags = new Tags(now);
        int found = 0;
        for (int q = 0; q < 20; q++) {
            int own = tags.came[tag][q];
            found |= own > 0 && (round == 0 || own == round) ? 1 << q : 0;
        }
        return found;
    }

    int state(int r) {
        if (!rule(r)) {
            return BAD;
        }
        Tags tags = new Tags(now);
        return (tags.applies(r, 999) ? 1 : 0) + (tags.falls(r, 999) ? 2 : 0);
    }

    int sides(int q, int what) {
        if (!literal(q) || what < 0 || what > 1) {
            return BAD;
        }
        Tags tags = new Tags(now);
        List<Integer> found = new ArrayList<>();
        if (what == 1) {
            now.rulesFor(q, true, false).stream().filter(r -> tags.applies(r, 999)).forEach(found::add);
        } else {
            now.rulesFor((q + 10) % 20, false, false).stream()
                .filter(r -> !tags.falls(r, 999) && !tags.beatenByTeam(r, q, 999)).forEach(found::add);
        }
        return bits(found);
    }

    int proof(int q, int tag, int k) {
        if (!literal(q) || !tagNumber(tag) || k < -1) {
            return BAD;
        }
        Tags tags = new Tags(now);
        if (tags.came[tag][q] == 0) {
            return NOT;
        }
        List<List<Integer>> steps = tags.proof(tag, q);
        if (k == -1) {
            return steps.size();
        }
        return k < steps.size() ? 100 * steps.get(k).get(1) + steps.get(k).get(2) : NOT;
    }

    private static String told(int q) {
        return q < 10 ? "" + (char) ('a' + q) : "~" + (char) ('a' + q - 10);
    }

    private static String told(Set<Integer> literals) {
        List<String> found = new ArrayList<>();
        literals.forEach(q -> found.add(told(q)));
        return String.join(",", found);
    }

    int prints(int q, int tag) {
        StringBuilder text = new StringBuilder();
        if (q == -1) {
            for (Rule r : now.rules) {
                text.append(told(r.body)).append("-=~".charAt(r.kind)).append('>').append(told(r.head));
                text.append(r.exceptions.isEmpty() ? "" : "?" + told(r.exceptions));
                text.append('*').append(r.strength).append(';');
            }
        } else if (!literal(q) || !tagNumber(tag)) {
            return BAD;
        } else {
            Tags tags = new Tags(now);
            if (tags.came[tag][q] == 0) {
                return NOT;
            }
            tags.proof(tag, q).forEach(s -> text.append("!#+-".charAt(s.get(1))).append(told(s.get(2))).append(';'));
        }
        paper = text.toString();
        return paper.length();
    }

    int paper(int i) {
        if (i < 0) {
            return BAD;
        }
        return i < paper.length() ? paper.charAt(i) : NOT;
    }

    private boolean comes(Case c, int tag, int q) {
        return new Tags(c).came[tag][q] > 0;
    }

    int would(int q, int fact, int is) {
        if (!literal(q) || !literal(fact) || is < 0 || is > 1) {
            return BAD;
        }
        Case c = now.copy();
        put(c.facts, fact, is);
        int found = 0;
        for (int tag = 0; tag < 4; tag++) {
            found += comes(c, tag, q) ? 1 << tag : 0;
        }
        return found;
    }

    int key(int q) {
        if (!literal(q)) {
            return BAD;
        }
        if (comes(now, 2, q)) {
            return STATE;
        }
        for (int p = 0; p < 20; p++) {
            Case c = now.copy();
            if (p != q && c.facts.add(p) && comes(c, 2, q)) {
                return p;
            }
        }
        return NOT;
    }

    int hinges(int q, int tag) {
        if (!literal(q) || !tagNumber(tag)) {
            return BAD;
        }
        int found = 0;
        for (int r = 0; r < now.rules.size(); r++) {
            Case c = now.copy();
            c.rules.get(r).off = true;
            found |= !now.rules.get(r).off && comes(c, tag, q) != comes(now, tag, q) ? 1 << r : 0;
        }
        return found;
    }

    int least(int r, int q) {
        if (!rule(r) || !literal(q)) {
            return BAD;
        }
        for (int v = 0; v < 10; v++) {
            Case c = now.copy();
            c.rules.get(r).strength = v;
            if (comes(c, 2, q)) {
                return v;
            }
        }
        return NOT;
    }

    private int draw(int m) {
        z[0] = z[0] * 1103515245 + 12345;
        long without = z[0] & 0x7fffffffL;
        return (int) (without / 65536 % m);
    }

    int lots(int q, int tag, int n, int seed) {
        if (!literal(q) || !tagNumber(tag) || n < 1 || n > 12) {
            return BAD;
        }
        z[0] = seed;
        int times = 0;
        for (int i = 0; i < n; i++) {
            Case c = now.copy();
            c.facts.clear();
            for (int atom = 0; atom < 10; atom++) {
                int drawn = draw(3);
                if (drawn < 2) {
                    c.facts.add(atom + 10 * drawn);
                }
            }
            times += comes(c, tag, q) ? 1 : 0;
        }
        return times;
    }

    int judge(int list, int p, int tag) {
        if (list < 0 || list > 3 || p < 0 || !tagNumber(tag)) {
            return BAD;
        }
        if (lists[list] == null) {
            return NOTHING;
        }
        Tags tags = new Tags(now);
        for (int q = 0; q < 20; q++) {
            long place = (long) p + q;
            if (place >= lists[list].length) {
                return 100 + q;
            }
            if (lists[list][(int) place] != tags.came[tag][q]) {
                return q;
            }
        }
        return NOT;
    }

    int list(int list, int n) {
        if (list < 0 || list > 3 || n > 24) {
            return BAD;
        }
        if (n < 0) {
            return BELOW;
        }
        lists[list] = new int[n];
        return 1;
    }

    int set(int list, int i, int v) {
        if (list < 0 || list > 3) {
            return BAD;
        }
        if (lists[list] == null) {
            return NOTHING;
        }
        if (i < 0 || i >= lists[list].length) {
            return BEYOND;
        }
        lists[list][i] = v;
        return 1;
    }

    long get(int list, int i) {
        if (list < 0 || list > 3 || lists[list] == null || i < 0 || i >= lists[list].length) {
            return Long.MIN_VALUE;
        }
        return lists[list][i];
    }

    int undo() {
        if (past.isEmpty()) {
            return STATE;
        }
        future.add(now);
        now = past.remove(past.size() - 1);
        return past.size();
    }

    int redo() {
        if (future.isEmpty()) {
            return STATE;
        }
        past.add(now);
        now = future.remove(future.size() - 1);
        return future.size();
    }

    int image() {
        image = now.copy();
        return now.rules.size();
    }

    int back() {
        if (image == null) {
            return STATE;
        }
        now = image.copy();
        past.clear();
        future.clear();
        return now.rules.size();
    }
}
