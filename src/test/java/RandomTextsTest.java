/** Promises 4, 5: texts drawn, most of them a little wrong, each FAULT compared with that of the TextModel. */
public final class RandomTextsTest {
    private static final Check CHECK = new Check("RandomTextsTest");
    private static final String[] PIECES = {"person", "age", "coin", "need", "family", "friend", "to", "price",
        "right", "odds", "ages", "draw", "or", "and", "not", "year", "a", "b", "abcdefgh", "abcdefghi", "m", "x", "z",
        ";", "(", ")", "<", ">", "=", "+", "-", "*", "/", "%", "0", "1", "9", "60", "120", "151", "999", "1000", "9999",
        "00001", "!", "A", "\0", "\t", "\377", " ", "\n", "  ", "6m", "1to", ";;", "not not not"};

    public static void main(String[] args) {
        int texts = args.length > 0 ? Integer.parseInt(args[0]) : 6000;
        for (int seed = 1; seed <= texts; seed++) {
            new RandomTextsTest(seed).run();
        }
        CHECK.due("texts without a FAULT are among them", goodOnes > texts / 20, true);
        for (int fault = 1; fault <= 5; fault++) {
            CHECK.due("the FAULT " + fault + " is among them", found[fault] > texts / 30, true);
        }
        CHECK.finish();
    }

    private static int goodOnes = 0;
    private static final int[] found = new int[6];

    private final int seed;
    private final Draws draws;

    private RandomTextsTest(int seed) {
        this.seed = seed;
        draws = new Draws(seed);
    }

    private void run() {
        YearHands x = new YearHands();
        for (int i = 0; i < 3; i++) {
            String text = drawText();
            TextModel model = new TextModel(text);
            int people = Check.tell(x, text);
            String what = "text " + seed + "." + i + ": " + text;
            CHECK.due(what + ": town()", people, model.fault == 0 ? model.people.size() : -1);
            CHECK.due(what + ": fault(0)", x.fault(0), model.fault);
            CHECK.due(what + ": fault(1)", x.fault(1), model.place);
            if (model.fault == 0) {
                CHECK.due(what + ": FRIENDS", x.about(1), model.friends.size());
                CHECK.due(what + ": RIGHTS", x.about(2), model.rights.size());
                CHECK.due(what + ": units", x.about(16), model.units);
                goodOnes++;
            }
            found[model.fault]++;
        }
    }

    private String drawText() {
        StringBuilder text = new StringBuilder();
        if (draws.once(12)) {
            for (int i = draws.below(12); i > 0; i--) {
                text.append(PIECES[draws.below(PIECES.length)]).append(draws.once(2) ? " " : "");
            }
            return text.toString();
        }
        if (draws.once(3)) {
            text.append("ages ").append(number(20)).append(" to ").append(number(150)).append(';');
        }
        int lines = draws.once(4) ? draws.below(40) : draws.below(8);
        int told = draws.below(10);
        for (int i = 0; i < told; i++) {
            person(text, draws.once(20) ? draws.below(8) : i);
        }
        for (int i = 0; i < lines && text.length() < 1400; i++) {
            line(text, Math.max(1, told));
        }
        if (text.length() > 1500) {
            text.setLength(1500);
        }
        for (int i = draws.below(3); i > 0 && text.length() > 0; i--) {
            spoil(text);
        }
        return text.toString();
    }

    private void spoil(StringBuilder text) {
        int at = draws.below(text.length());
        switch (draws.below(4)) {
            case 0: text.deleteCharAt(at); break;
            case 1: text.setLength(at); break;
            case 2: text.setCharAt(at, PIECES[draws.below(PIECES.length)].charAt(0)); break;
            default: text.insert(at, PIECES[draws.below(PIECES.length)]);
        }
    }

    private String number(int below) {
        return "" + (draws.once(60) ? draws.below(10000) : draws.below(below));
    }

    private void person(StringBuilder text, int number) {
        text.append("person ").append((char) ('a' + number)).append(" age ").append(20 + draws.below(3));
        text.append(" coin ").append(number(1000));
        if (draws.once(4)) {
            text.append(" need ").append(20 + draws.below(3));
        }
        if (draws.once(4)) {
            text.append(" family ").append(number(4));
        }
        text.append(draws.once(2) ? ";" : ";\n");
    }

    private void line(StringBuilder text, int people) {
        switch (draws.below(10)) {
            case 0: text.append("draw ").append(number(1000)); break;
            case 1: text.append("odds ").append(formula(draws.below(5), 0)); break;
            case 2: case 3: {
                text.append("right ").append((char) ('a' + draws.below(26)));
                text.append(' ').append(formula(draws.below(5), 0));
                break;
            }
            default: {
                char to = (char) ('a' + draws.below(people));
                text.append("friend ").append((char) ('a' + draws.below(people))).append(" to ").append(to);
                text.append(" price ").append(number(100));
            }
        }
        text.append(';');
    }

    /** Many of these go as deep, and some are as long, as can be. */
    private String formula(int joined, int depth) {
        if (depth > 8) {
            return "age";
        }
        if (draws.once(40)) {
            return "1" + "+1".repeat(draws.from(26, 31));
        }
        String[] joins = {" or ", " and ", "<", ">", "=", "+", "-", "*", "/", "%"};
        StringBuilder text = new StringBuilder();
        for (int i = 0; i <= joined; i++) {
            if (i > 0) {
                text.append(joins[draws.below(joins.length)]);
            }
            if (draws.once(6)) {
                text.append("not ").append(draws.once(3) ? "not not not not not not " : "");
            }
            if (draws.once(depth == 0 ? 4 : 2) && i == 0) {
                text.append('(').append(formula(draws.below(3), depth + 1)).append(')');
            } else {
                text.append(draws.once(2) ? "age" : draws.once(3) ? "coin" : number(50));
            }
        }
        return text.toString();
    }
}
