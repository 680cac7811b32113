import java.util.ArrayList;
import java.util.Arrays;
import java.util.HashSet;
import java.util.List;
import java.util.Set;
import java.util.regex.Matcher;
import java.util.regex.Pattern;

/** The sentences on a TOWN's text told a second time: which FAULT is its first, and where. */
final class TextModel {
    private static final Set<String> WORDS = new HashSet<>(Arrays.asList("person", "age", "coin", "need", "family",
        "friend", "to", "price", "right", "odds", "ages", "draw", "or", "and", "not", "year"));
    /** What can stand directly behind blanks: a whole row of letters, of digits, or a sign. */
    private static final Pattern ROW = Pattern.compile("[ \n]*([a-z]+|[0-9]+|[^a-z0-9])?", Pattern.DOTALL);

    int fault = 0;
    int place = -1;
    int units = 0;
    final List<String> people = new ArrayList<>();
    final Set<String> friends = new HashSet<>();
    final Set<String> rights = new HashSet<>();

    private final String text;
    private int least = 0;
    private int most = 120;
    private int unitsBefore;
    private int next = 0;

    /** The first FAULT ends the reading. */
    private static final class Fault extends Exception {
        private static final long serialVersionUID = 1L;
        final int fault;
        final int place;

        Fault(int fault, int place) {
            this.fault = fault;
            this.place = place;
        }
    }

    TextModel(String text) {
        this.text = text;
        try {
            town();
        } catch (Fault found) {
            fault = found.fault;
            place = found.place;
        }
    }

    // ---- TOKENS, looked at in the text itself each time

    private Matcher row() {
        Matcher matcher = ROW.matcher(text);
        matcher.region(next, text.length());
        matcher.lookingAt();
        return matcher;
    }

    private int here() {
        Matcher row = row();
        return row.group(1) == null ? text.length() : row.start(1);
    }

    /** The TOKEN that comes next; "" at the end. */
    private String peek() throws Fault {
        Matcher row = row();
        String token = row.group(1);
        if (token == null) {
            return "";
        }
        boolean word = token.matches("[a-z]{1,8}");
        boolean letterBehind = row.end(1) < text.length() && text.substring(row.end(1)).matches("(?s)[a-z].*");
        boolean number = token.matches("[0-9]{1,4}") && !letterBehind;
        if (!word && !number && !";()<>=+-*/%".contains(token)) {
            throw new Fault(1, here());
        }
        return token;
    }

    private String take() throws Fault {
        String token = peek();
        next = row().end();
        return token;
    }

    private void take(String due) throws Fault {
        if (!peek().equals(due)) {
            throw new Fault(2, here());
        }
        take();
    }

    private boolean takeIf(String... due) throws Fault {
        boolean is = Arrays.asList(due).contains(peek());
        if (is) {
            take();
        }
        return is;
    }

    private int number(int from, int to) throws Fault {
        if (!peek().matches("[0-9]+")) {
            throw new Fault(2, here());
        }
        int number = Integer.parseInt(peek());
        if (number < from || number > to) {
            throw new Fault(4, here());
        }
        take();
        return number;
    }

    private String name() throws Fault {
        if (!peek().matches("[a-z]+") || WORDS.contains(peek())) {
            throw new Fault(2, here());
        }
        return peek();
    }

    // ---- lines

    private void town() throws Fault {
        Set<String> once = new HashSet<>();
        for (boolean first = true; !peek().isEmpty(); first = false) {
            int start = here();
            String sort = peek();
            boolean tooMany = sort.equals("person") && people.size() == 8
                || sort.equals("friend") && friends.size() == 20
                || sort.equals("right") && rights.size() == 6
                || sort.equals("ages") && !first
                || (sort.equals("odds") || sort.equals("draw")) && !once.add(sort);
            if (tooMany) {
                throw new Fault(2, start);
            }
            take();
            line(sort, start);
            take(";");
        }
    }

    private void line(String sort, int start) throws Fault {
        switch (sort) {
            case "person": person(); break;
            case "friend": friend(); break;
            case "right":
                if (!rights.add(name())) {
                    throw new Fault(3, here());
                }
                take();
                formula();
                break;
            case "odds": formula(); break;
            case "ages":
                least = number(0, 150);
                take("to");
                most = number(least, 150);
                break;
            case "draw": number(0, 999); break;
            default: throw new Fault(2, start);
        }
    }

    private void person() throws Fault {
        String name = name();
        if (people.contains(name)) {
            throw new Fault(3, here());
        }
        take();
        take("age");
        number(least, most);
        take("coin");
        number(0, 999);
        if (takeIf("need")) {
            number(least, most);
        }
        if (takeIf("family")) {
            number(0, 3);
        }
        people.add(name);
    }

    private void friend() throws Fault {
        String from = someone();
        take();
        take("to");
        String to = someone();
        if (from.equals(to) || !friends.add(from + " " + to)) {
            throw new Fault(3, here());
        }
        take();
        take("price");
        number(0, 99);
    }

    private String someone() throws Fault {
        if (!people.contains(name())) {
            throw new Fault(5, here());
        }
        return peek();
    }

    // ---- formulas: around is how many ( e ), ones behind not stand around what comes next

    private void formula() throws Fault {
        unitsBefore = units;
        either(0);
    }

    private void either(int around) throws Fault {
        do {
            do {
                one(around);
            } while (takeIf("and"));
        } while (takeIf("or"));
    }

    private void one(int around) throws Fault {
        if (peek().equals("not")) {
            if (around >= 7) {
                throw new Fault(2, here());
            }
            take();
            one(around + 1);
            return;
        }
        sum(around);
        if (takeIf("<", ">", "=")) {
            sum(around);
        }
    }

    private void sum(int around) throws Fault {
        do {
            unit(around);
        } while (takeIf("+", "-", "*", "/", "%"));
    }

    private void unit(int around) throws Fault {
        String token = peek();
        boolean open = token.equals("(");
        boolean can = token.matches("[0-9]+|age|coin|year|family") || open && around < 7;
        if (!can || units == 60 || units - unitsBefore == 30) {
            throw new Fault(2, here());
        }
        units++;
        take();
        if (open) {
            either(around + 1);
            take(")");
        }
    }
}
