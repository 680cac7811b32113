import java.util.Arrays;

/** Towns and calls drawn, each answer compared with that of the Model. */
public final class RandomRunsTest {
    private static final Check CHECK = new Check("RandomRunsTest");
    /** What an object answers to later calls is free. */
    private static final int MOST_CALLS = 512;

    public static void main(String[] args) {
        int runs = args.length > 0 ? Integer.parseInt(args[0]) : 2000;
        for (int seed = 1; seed <= runs; seed++) {
            new RandomRunsTest(seed).run();
        }
        CHECK.finish();
    }

    private final int seed;
    private final Draws draws;
    private final YearHands x = new YearHands();
    private Model model = new Model();
    private int units;
    private int unitsHere;
    private int longest;
    private int feeds = 0;

    private RandomRunsTest(int seed) {
        this.seed = seed;
        draws = new Draws(seed);
    }

    private void run() {
        int start = CHECK.asked();
        tell();
        boolean faces = draws.once(3);
        // A town told anew takes some ninety calls, one kind of call some twenty.
        for (int i = 0; feeds + CHECK.asked() - start + callsToCompareAll() < MOST_CALLS - 110; i++) {
            if (draws.once(150)) {
                tell();
            }
            if (faces && draws.once(2)) {
                askFaces("run " + seed + ", call " + i);
            } else if (draws.once(2)) {
                act("run " + seed + ", call " + i);
            } else {
                ask("run " + seed + ", call " + i);
            }
            if (i % 4 == 3) {
                compareSome("run " + seed + ", behind call " + i);
            }
        }
        compareAll("run " + seed + ", at the end");
    }

    // ---- a town drawn

    /** A town beyond the limits is drawn anew. */
    private void tell() {
        String text = drawTown();
        while (units > 60 || longest > 30 || text.length() > 1600) {
            text = drawTown();
        }
        feeds += text.length() / 20 + 3;
        CHECK.due("run " + seed + ": town() of " + text, Check.tell(x, text), model.people.size());
    }

    private String drawTown() {
        int time = model.time;
        model = new Model();
        model.time = time;
        units = 0;
        longest = 0;
        StringBuilder text = new StringBuilder();
        if (draws.once(2)) {
            model.least = draws.once(3) ? 0 : draws.below(draws.once(2) ? 151 : 10);
            model.most = draws.from(model.least, draws.once(2) ? 150 : Math.min(150, model.least + 30));
            text.append("ages ").append(model.least).append(" to ").append(model.most).append(";");
        }
        int people = draws.once(20) ? 0 : draws.from(1, 8);
        for (int p = 0; p < people; p++) {
            addPerson(text, p);
        }
        int friends = draws.below(21);
        for (int f = 0; f < friends && people > 1; f++) {
            addFriends(text, people);
        }
        int rights = draws.below(5);
        for (int r = 0; r < rights; r++) {
            unitsHere = 0;
            String formula = either(0);
            model.rights.add(formula);
            text.append("right r").append((char) ('a' + r)).append(' ').append(formula).append(";");
        }
        if (draws.once(3)) {
            unitsHere = 0;
            model.odds = draws.once(2) ? either(0) : leafOdds();
            text.append("odds ").append(model.odds).append(";");
        }
        if (draws.once(2)) {
            model.draw = draws.below(1000);
            text.append("draw ").append(model.draw).append(";");
        }
        model.begin();
        return text.toString();
    }

    private String leafOdds() {
        units += 3;
        return new String[] {"age - 30 + year", "age / 9 % 7", "age * age / 300", "40 - age + year"}[draws.below(4)];
    }

    private void addPerson(StringBuilder text, int p) {
        int age = draws.from(model.least, draws.once(2) ? model.most : Math.min(model.most, model.least + 12));
        int coin = draws.below(draws.once(2) ? 20 : 1000);
        text.append("person p").append((char) ('a' + p)).append(" age ").append(age).append(" coin ").append(coin);
        int need = age;
        if (draws.once(2)) {
            need = draws.from(model.least, model.most);
            text.append(" need ").append(need);
        }
        int family = 0;
        if (draws.once(2)) {
            family = draws.below(4);
            text.append(" family ").append(family);
        }
        text.append(";\n");
        model.people.add(new int[] {age, coin, need, family});
    }

    private void addFriends(StringBuilder text, int people) {
        int from = draws.below(people);
        int to = draws.below(people);
        for (int[] f : model.friends) {
            if (f[0] == from && f[1] == to) {
                return;
            }
        }
        if (from == to) {
            return;
        }
        int price = draws.once(3) ? draws.below(100) : draws.below(5);
        model.friends.add(new int[] {from, to, price});
        text.append("friend p").append((char) ('a' + from)).append(" to p").append((char) ('a' + to));
        text.append(" price ").append(price).append(";");
    }

    // ---- formulas drawn, blanks between all

    private String either(int within) {
        return draws.once(5) ? both(within) + " or " + both(within) : both(within);
    }

    private String both(int within) {
        return draws.once(4) ? one(within) + " and " + one(within) : one(within);
    }

    private String one(int within) {
        if (within < 7 && draws.once(7)) {
            return "not " + one(within + 1);
        }
        String[] signs = {"<", ">", "="};
        return draws.once(2) ? sum(within) + " " + signs[draws.below(3)] + " " + sum(within) : sum(within);
    }

    private String sum(int within) {
        return draws.once(3) ? term(within) + (draws.once(2) ? " + " : " - ") + term(within) : term(within);
    }

    private String term(int within) {
        String[] signs = {" * ", " / ", " % "};
        return draws.once(4) ? unit(within) + signs[draws.below(3)] + unit(within) : unit(within);
    }

    private String unit(int within) {
        units++;
        unitsHere++;
        longest = Math.max(longest, unitsHere);
        if (within < 7 && unitsHere < 5 && draws.once(5)) {
            return "( " + either(within + 1) + " )";
        }
        switch (draws.below(8)) {
            case 0: case 1: case 2: return "age";
            case 3: return "coin";
            case 4: return "year";
            case 5: return "family";
            default: return "" + draws.below(draws.once(4) ? 10000 : draws.once(2) ? 100 : 5);
        }
    }

    // ---- calls drawn

    private int anyone() {
        return draws.once(12) ? draws.from(-2, 9) : draws.below(Math.max(1, model.people.size()));
    }

    private int anyAge() {
        return draws.once(10) ? draws.from(-3, 153) : draws.from(model.least, model.most);
    }

    private void act(String at) {
        switch (draws.below(12)) {
            case 0: case 1: case 2: giveOrLend(at, true); break;
            case 3: case 4: case 5: giveOrLend(at, false); break;
            case 6: CHECK.due(at + ": year()", x.year(), model.year()); break;
            case 7: CHECK.due(at + ": undo()", x.undo(), model.undo()); break;
            case 8: CHECK.due(at + ": redo()", x.redo(), model.redo()); break;
            case 9: target(at); break;
            case 10: {
                int box = draws.from(-1, 3);
                CHECK.due(at + ": image(" + box + ")", x.image(box), model.image(box));
                break;
            }
            default: {
                int box = draws.from(-1, 3);
                if (draws.once(3)) {
                    CHECK.due(at + ": back(" + box + ")", x.back(box), model.back(box));
                } else {
                    CHECK.due(at + ": undo()", x.undo(), model.undo());
                }
            }
        }
    }

    private void giveOrLend(String at, boolean give) {
        int from = anyone();
        int to = anyone();
        if (!model.friends.isEmpty() && !draws.once(5)) {
            int[] f = model.friends.get(draws.below(model.friends.size()));
            from = f[0];
            to = f[1];
        }
        int n = draws.once(4) ? draws.from(-1, 101) : draws.from(1, 5);
        int till = model.now.year + (draws.once(10) ? draws.from(-1, 1001) : draws.from(1, 3));
        if (give) {
            CHECK.due(at + ": give(" + from + ", " + to + ", " + n + ")", x.give(from, to, n), model.give(from, to, n));
        } else {
            CHECK.due(at + ": lend(" + from + ", " + to + ", " + n + ", " + till + ")", x.lend(from, to, n, till),
                model.lend(from, to, n, till));
        }
    }

    private void target(String at) {
        int p = anyone();
        int age = anyAge();
        CHECK.due(at + ": target(" + p + ", " + age + ")", x.target(p, age), model.target(p, age));
        // A second one makes it likelier that all can be so.
        if (model.people.size() > 1 && model.isPerson(p) && model.isAge(age) && draws.once(2)) {
            int q = draws.below(model.people.size());
            int other = model.now.age[q] + model.now.age[p] - age;
            CHECK.due(at + ": target(" + q + ", " + other + ")", x.target(q, other), model.target(q, other));
        }
        CHECK.due(at + ": cheapest()", x.cheapest(), model.cheapest());
        CHECK.due(at + ": barred()", x.barred(), model.barred());
        if (draws.once(3)) {
            CHECK.due(at + ": hush()", x.hush(), model.hush());
        }
    }

    private void ask(String at) {
        int p = anyone();
        int r = draws.from(-1, 4);
        int what = draws.from(-1, 2);
        int tax = draws.once(3) ? draws.from(-1, 100) : draws.from(0, 5);
        switch (draws.below(18)) {
            case 0: CHECK.due(at + ": has(" + p + ", " + r + ")", x.has(p, r), model.has(p, r)); break;
            case 1: {
                int age = anyAge();
                CHECK.due(at + ": odds(" + age + ")", x.odds(age), model.odds(age));
                break;
            }
            case 2: CHECK.due(at + ": sum(" + what + ")", x.sum(what), model.sum(what)); break;
            case 3: CHECK.due(at + ": cheapest()", x.cheapest(), model.cheapest()); break;
            case 4: CHECK.due(at + ": barred()", x.barred(), model.barred()); break;
            case 5: case 6:
                CHECK.due(at + ": reach(" + p + ", " + r + ", 0)", x.reach(p, r, 0), model.reach(p, r, 0));
                CHECK.due(at + ": reach(" + p + ", " + r + ", 1)", x.reach(p, r, 1), model.reach(p, r, 1));
                CHECK.due(at + ": reach(, , " + what + ")", x.reach(p, r, what), model.reach(p, r, what));
                break;
            case 7: CHECK.due(at + ": net(" + p + ")", x.net(p), model.net(p)); break;
            case 8: CHECK.due(at + ": payments()", x.payments(), model.payments()); break;
            case 9: CHECK.due(at + ": ring()", x.ring(), model.ring()); break;
            case 10: {
                int price = draws.from(-1, 100);
                CHECK.due(at + ": market(" + price + ", " + tax + ")", x.market(price, tax), model.market(price, tax));
                break;
            }
            case 11:
                CHECK.due(at + ": rests(" + tax + ", " + what + ")", x.rests(tax, what), model.rests(tax, what));
                break;
            case 12: CHECK.due(at + ": corner(" + p + ", " + tax + ")", x.corner(p, tax), model.corner(p, tax)); break;
            case 13: CHECK.due(at + ": safest()", x.safest(), model.safest()); break;
            case 14: CHECK.due(at + ": bends()", x.bends(), model.bends()); break;
            case 15: CHECK.due(at + ": twice(" + r + ")", x.twice(r), model.twice(r)); break;
            case 16: {
                int family = draws.from(-1, 4);
                CHECK.due(at + ": fair(" + family + ")", x.fair(family), model.fair(family));
                break;
            }
            default: CHECK.due(at + ": all(" + p + ", " + r + ")", x.all(p, r), model.all(p, r));
        }
        CHECK.lies(at, x, model.lying);
    }

    private void askFaces(String at) {
        int k = draws.once(5) ? draws.from(-1, 100) : model.time - draws.below(4);
        switch (draws.below(7)) {
            case 0: case 1: {
                int p = anyone();
                int age = anyAge();
                if (model.isPerson(p) && !draws.once(4)) {
                    age = model.people.get(p)[0] + draws.from(-9, 9) * draws.below(2);
                }
                CHECK.due(at + ": face(" + p + ", " + age + ")", x.face(p, age), model.face(p, age));
                break;
            }
            case 2: {
                int face = draws.from(-1, model.faces.size());
                CHECK.due(at + ": untell(" + face + ")", x.untell(face), model.untell(face));
                break;
            }
            case 3: {
                int by = draws.once(10) ? draws.from(-1, 1001) : draws.below(3);
                CHECK.due(at + ": later(" + by + ")", x.later(by), model.later(by));
                break;
            }
            case 4:
                CHECK.due(at + ": explained(" + k + ")", x.explained(k), model.explained(k));
                CHECK.lies(at + ": explained(" + k + ")", x, model.lying);
                break;
            case 5: {
                int p = anyone();
                CHECK.due(at + ": sure(" + p + ", " + k + ")", x.sure(p, k), model.sure(p, k));
                break;
            }
            default: CHECK.due(at + ": forged(" + k + ")", x.forged(k), model.forged(k));
        }
    }

    private void compareSome(String at) {
        int what = draws.from(-1, 18);
        CHECK.due(at + ": about(" + what + ")", x.about(what), model.about(what, 0, units));
        int p = anyone();
        what = draws.from(-1, 5);
        CHECK.due(at + ": person(" + p + ", " + what + ")", x.person(p, what), model.person(p, what));
        int loan = draws.from(-1, model.now.loans.size());
        what = draws.from(-1, 5);
        CHECK.due(at + ": loan(" + loan + ", " + what + ")", x.loan(loan, what), model.loan(loan, what));
    }

    private int callsToCompareAll() {
        return 21 + 7 * (model.people.size() + 2) + 7 * (model.now.loans.size() + 2);
    }

    private void compareAll(String at) {
        for (int what = -1; what <= 18; what++) {
            CHECK.due(at + ": about(" + what + ")", x.about(what), model.about(what, 0, units));
        }
        for (int p = -1; p <= model.people.size(); p++) {
            for (int what = -1; what <= 5; what++) {
                CHECK.due(at + ": person(" + p + ", " + what + ")", x.person(p, what), model.person(p, what));
            }
        }
        for (int loan = -1; loan <= model.now.loans.size(); loan++) {
            for (int what = -1; what <= 5; what++) {
                CHECK.due(at + ": loan(" + loan + ", " + what + ")", x.loan(loan, what), model.loan(loan, what));
            }
        }
        CHECK.due(at + ": what lies there: " + Arrays.toString(model.lying), x.about(17), model.lying.length);
    }
}
