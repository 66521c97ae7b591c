/** All that a court can be asked, as one text. Changes are undone and done again for it: the court is used up. */
final class Picture {
    private final RuleCourt x;
    private final StringBuilder text = new StringBuilder();

    private Picture(RuleCourt x) {
        this.x = x;
    }

    static String of(RuleCourt x) {
        Picture picture = new Picture(x);
        picture.whatIsKeptAsideOfRules();
        picture.rules();
        picture.allChanges();
        picture.tape();
        picture.image();
        return picture.text.toString();
    }

    private void put(String name, long answer) {
        text.append(name).append(answer).append(' ');
    }

    private void whatIsKeptAsideOfRules() {
        for (int what = 0; what <= 11; what++) {
            put("count", x.count(what));
        }
        text.append(Told.paper(x)).append(' ');
        for (int list = 0; list < 4; list++) {
            for (int i = 0; i < 4; i++) {
                put("get", x.get(list, i));
            }
        }
        for (int tag = 0; tag < 4; tag++) {
            put("tagged", x.tagged(tag, 0));
        }
    }

    private void rules() {
        for (int r = 0; r < x.count(4); r++) {
            for (int what = 0; what < 8; what++) {
                put("rule", x.ruleOf(r, what));
            }
        }
    }

    private void allChanges() {
        while (x.redo() >= 0) {
            inShort();
        }
        while (x.undo() >= 0) {
            inShort();
        }
    }

    private void inShort() {
        put("facts", x.count(0));
        put("rules", x.count(4));
        put("pairs", x.count(5));
        put("strength", x.ruleOf(0, 4));
        put("off", x.ruleOf(1, 5));
    }

    private void tape() {
        put("reads", x.reads());
        inShort();
    }

    private void image() {
        put("back", x.back());
        inShort();
        text.append(Told.rules(x));
    }
}
