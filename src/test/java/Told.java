/** Shorthands of the tests: words told to a court, its paper, bits of literals. */
final class Told {
    private Told() {
    }

    static RuleCourt court(String words) {
        RuleCourt x = new RuleCourt();
        int came = read(x, words);
        if (came < 0) {
            throw new IllegalStateException("no words: " + words + ": " + came);
        }
        return x;
    }

    static void feed(RuleCourt x, String words) {
        for (int i = 0; i < words.length(); i++) {
            x.feed(words.charAt(i));
        }
    }

    static int read(RuleCourt x, String words) {
        feed(x, words);
        return x.reads();
    }

    static String paper(RuleCourt x) {
        StringBuilder text = new StringBuilder();
        int i = 0;
        for (int letter = x.paper(i); letter >= 0; letter = x.paper(i)) {
            text.append((char) letter);
            i++;
        }
        return text.toString();
    }

    static String proof(RuleCourt x, int literal, int tag) {
        int bytes = x.prints(literal, tag);
        return bytes < 0 ? String.valueOf(bytes) : paper(x);
    }

    static String rules(RuleCourt x) {
        x.prints(-1, 0);
        return paper(x);
    }

    static int bits(int... places) {
        int found = 0;
        for (int place : places) {
            found |= 1 << place;
        }
        return found;
    }
}
