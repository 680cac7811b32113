/** Promises 10 to 15, 39 and 40: give, lend, year, undo, redo, loan; image, back. */
public final class ActsTest {
    private static final Check CHECK = new Check("ActsTest");
    private static final String TOWN = "ages 10 to 60;person a age 30 coin 5;person b age 20 coin 10;person c age 55 coin 100;"
        + "friend a to b price 2;friend b to c price 0;friend c to a price 3;";

    public static void main(String[] args) {
        gifts();
        loans();
        years();
        deaths();
        loansOfTheDead();
        defaults();
        inOrder();
        undone();
        mostActs(40);
        mostActs(45);
        mostActs(300);
        mostLoans();
        boxes();
        CHECK.finish();
    }

    private static void gifts() {
        YearHands x = Check.town(TOWN);
        CHECK.due("give(0, 1, 5)", x.give(0, 1, 5), 10);
        CHECK.due("age of who gives", x.person(0, 0), 25);
        CHECK.due("age of who takes", x.person(1, 0), 25);
        CHECK.due("who gives is paid", x.person(0, 1), 15);
        CHECK.due("who takes pays", x.person(1, 1), 0);
        CHECK.due("an ACT", x.about(10), 1);
        CHECK.due("the coin is not enough", x.give(0, 1, 1), -1);
        CHECK.due("no FRIENDS so", x.give(1, 0, 1), -1);
        CHECK.due("0 years", x.give(1, 2, 0), -1);
        CHECK.due("years below 0", x.give(1, 2, -1), -1);
        CHECK.due("above MOST", x.give(1, 2, 6), -1);
        CHECK.due("MOST just so, for nothing", x.give(1, 2, 5), 0);
        CHECK.due("to oneself", x.give(0, 0, 1), -1);
        CHECK.due("from nobody", x.give(-1, 0, 1), -1);
        CHECK.due("to nobody", x.give(0, 3, 1), -1);
        CHECK.due("nothing is done", x.about(10), 2);
        x = Check.town("ages 10 to 150;person a age 30 coin 0;person b age 11 coin 0;friend a to b price 0;"
            + "person c age 140 coin 0;person d age 10 coin 0;friend c to d price 0;");
        CHECK.due("below LEAST", x.give(0, 1, 21), -1);
        CHECK.due("LEAST just so", x.give(0, 1, 20), 0);
        CHECK.due("100 years", x.give(2, 3, 100), -1);
        CHECK.due("99 years", x.give(2, 3, 99), 0);
        x = Check.town("person a age 30 coin 0;person b age 11 coin 198;friend a to b price 99;");
        CHECK.due("one coin too few", x.give(0, 1, 3), -1);
        CHECK.due("all coins", x.give(0, 1, 2), 198);
    }

    private static void loans() {
        YearHands x = Check.town(TOWN);
        CHECK.due("lend(2, 0, 7, 3)", x.lend(2, 0, 7, 3), 0);
        CHECK.due("who lends", x.person(2, 0), 48);
        CHECK.due("who has", x.person(0, 0), 37);
        CHECK.due("no price", x.person(0, 1), 5);
        CHECK.due("lend(0, 1, 99, 1)", x.lend(0, 1, 99, 1), -1);
        CHECK.due("lend(1, 2, 10, 1000)", x.lend(1, 2, 10, 1000), 1);
        int[] first = {2, 0, 7, 3, 0};
        int[] second = {1, 2, 10, 1000, 0};
        for (int what = 0; what < 5; what++) {
            CHECK.due("loan(0, " + what + ")", x.loan(0, what), first[what]);
            CHECK.due("loan(1, " + what + ")", x.loan(1, what), second[what]);
        }
        CHECK.due("loan(0, 5)", x.loan(0, 5), -1);
        CHECK.due("loan(0, -1)", x.loan(0, -1), -1);
        CHECK.due("loan(2, 0)", x.loan(2, 0), -1);
        CHECK.due("loan(-1, 0)", x.loan(-1, 0), -1);
        CHECK.due("till now", x.lend(0, 1, 1, 0), -1);
        CHECK.due("till before", x.lend(0, 1, 1, -1), -1);
        CHECK.due("till 1001", x.lend(0, 1, 1, 1001), -1);
        CHECK.due("0 years", x.lend(0, 1, 0, 1), -1);
        CHECK.due("100 years", x.lend(0, 1, 100, 1), -1);
        CHECK.due("no FRIENDS so", x.lend(1, 0, 1, 1), -1);
        CHECK.due("nobody", x.lend(3, 0, 1, 1), -1);
        CHECK.due("below LEAST", x.lend(1, 2, 1, 5), -1);
        CHECK.due("above MOST", x.lend(0, 1, 0, 5), -1);
        CHECK.due("LOANS", x.about(8), 2);
        CHECK.due("ACTS", x.about(10), 2);
        x.year();
        CHECK.due("till this YEAR", x.lend(0, 1, 1, 1), -1);
        CHECK.due("till the next", x.lend(0, 1, 1, 2), 2);
    }

    private static void years() {
        YearHands x = Check.town(TOWN + "draw 999;");
        x.lend(0, 1, 5, 2);
        CHECK.due("year()", x.year(), 0);
        CHECK.due("the YEAR", x.about(5), 1);
        CHECK.due("older", x.person(0, 0), 26);
        CHECK.due("the LOAN lasts", x.loan(0, 4), 0);
        CHECK.due("three SEEDS", x.about(6), seed(999, 3));
        CHECK.due("year()", x.year(), 0);
        CHECK.due("older and back", x.person(0, 0), 32);
        CHECK.due("older and gone", x.person(1, 0), 22);
        CHECK.due("the LOAN is OVER", x.loan(0, 4), 1);
        CHECK.due("no DEFAULT", x.about(9), 0);
        for (int i = 0; i < 5; i++) {
            x.year();
        }
        CHECK.due("MOST at most", x.person(2, 0), 60);
        YearHands late = new YearHands();
        for (int i = 1; i <= 500; i++) {
            CHECK.due("YEAR " + i, late.year(), 0);
        }
        CHECK.due("as late as calls go", late.about(5), 500);
        CHECK.due("ACTS", late.about(10), 40);
    }

    private static int seed(int seed, int times) {
        int now = seed;
        for (int i = 0; i < times; i++) {
            now = (now * 137 + 71) % 1000;
        }
        return now;
    }

    private static void deaths() {
        // SEEDS behind 7: 30, 181, 868; tenths 3, 18, 86.
        String people = "person a age 3 coin 0;person b age 18 coin 0;person c age 86 coin 0;draw 7;odds ";
        YearHands x = Check.town(people + "age - 1;");
        CHECK.due("a tenth that is not below the ODDS", x.year(), 0);
        CHECK.due("the SEED", x.about(6), 868);
        x = Check.town(people + "age;");
        CHECK.due("a tenth below the ODDS", x.year(), 3);
        CHECK.due("nobody is alive", x.about(7), 0);
        x = Check.town(people + "100 * (age = 19);");
        CHECK.due("one dies", x.year(), 1);
        CHECK.due("two are alive", x.about(7), 5);
        CHECK.due("all drew", x.about(6), 868);
        CHECK.due("the dead draw no more", x.year(), 0);
        CHECK.due("two SEEDS more", x.about(6), seed(868, 2));
        CHECK.due("the dead grow no older", x.person(1, 0), 19);
        CHECK.due("the living do", x.person(0, 0), 5);
        x = Check.town(people + "year * 100;");
        CHECK.due("ODDS of the new YEAR", x.year(), 3);
        // The LOAN comes back ahead of the draws.
        x = Check.town("person a age 10 coin 0;person b age 30 coin 0;friend b to a price 0;odds 100 * (age > 30);draw 0;");
        x.lend(1, 0, 5, 1);
        CHECK.due("by the age behind the LOANS", x.year(), 1);
        CHECK.due("who lent is dead", x.about(7), 1);
    }

    private static void loansOfTheDead() {
        String town = "person a age 10 coin 0;person b age 30 coin 0;friend b to a price 0;draw 0;";
        YearHands x = Check.town(town + "odds 100 * (age = 26);");
        x.lend(1, 0, 5, 2);
        CHECK.due("who lent dies", x.year(), 1);
        CHECK.due("year()", x.year(), 0);
        CHECK.due("the years stay with who has them", x.person(0, 0), 17);
        CHECK.due("the dead one's age stays", x.person(1, 0), 26);
        CHECK.due("it is OVER", x.loan(0, 4), 1);
        CHECK.due("it is no DEFAULT", x.about(9), 0);
        x = Check.town(town + "odds 100 * (age = 16);");
        x.lend(1, 0, 5, 2);
        CHECK.due("who has dies", x.year(), 1);
        CHECK.due("year()", x.year(), 0);
        CHECK.due("the years stay with the dead", x.person(1, 0), 27);
        CHECK.due("the dead gives none", x.person(0, 0), 16);
        CHECK.due("it is OVER", x.loan(0, 4), 1);
        CHECK.due("it is no DEFAULT", x.about(9), 0);
        CHECK.due("no GIFT to the dead", x.give(1, 0, 1), -1);
        CHECK.due("no LOAN to the dead", x.lend(1, 0, 1, 9), -1);
    }

    private static void defaults() {
        String town = "ages 10 to 40;person a age 10 coin 0;person b age 39 coin 0;person c age 20 coin 0;"
            + "friend b to a price 0;friend a to c price 0;friend c to b price 0;";
        YearHands x = Check.town(town);
        x.lend(1, 0, 5, 1);
        x.give(0, 2, 3);
        CHECK.due("year()", x.year(), 0);
        CHECK.due("below LEAST: it stays", x.person(0, 0), 13);
        CHECK.due("below LEAST: who lent", x.person(1, 0), 35);
        CHECK.due("a DEFAULT", x.about(9), 1);
        CHECK.due("it is OVER", x.loan(0, 4), 1);
        x = Check.town(town);
        x.lend(1, 0, 5, 1);
        x.give(2, 1, 6);
        CHECK.due("year()", x.year(), 0);
        CHECK.due("above MOST: it stays", x.person(1, 0), 40);
        CHECK.due("above MOST: who has", x.person(0, 0), 16);
        CHECK.due("a DEFAULT", x.about(9), 1);
        CHECK.due("undo()", x.undo(), true);
        CHECK.due("DEFAULTS are undone", x.about(9), 0);
        CHECK.due("LOANS are not OVER", x.loan(0, 4), 0);
        x = Check.town(town);
        x.lend(1, 0, 5, 1);
        x.give(0, 2, 1);
        CHECK.due("LEAST just so", x.year(), 0);
        CHECK.due("it came back", x.person(0, 0), 10);
        CHECK.due("to who lent", x.person(1, 0), 40);
        CHECK.due("no DEFAULT", x.about(9), 0);
    }

    private static void inOrder() {
        // The first LOAN brings b to MOST, so that the second one can't come back; then the third one can.
        YearHands x = Check.town("ages 0 to 40;person a age 10 coin 0;person b age 39 coin 0;person c age 20 coin 0;"
            + "friend b to a price 0;friend b to c price 0;friend c to a price 0;");
        x.lend(1, 0, 5, 1);
        x.lend(1, 2, 5, 1);
        x.lend(2, 0, 3, 2);
        CHECK.due("year()", x.year(), 0);
        CHECK.due("b", x.person(1, 0), 40);
        CHECK.due("a", x.person(0, 0), 14);
        CHECK.due("c", x.person(2, 0), 18);
        CHECK.due("no DEFAULT", x.about(9), 0);
        x.year();
        x.undo();
        x.undo();
        x.undo();
        x.undo();
        CHECK.due("a again", x.person(0, 0), 15);
        // b was 34 and lent 5 more: 29, 30; back 5 and 5: 40. With one year of c more only one of both fits.
        x = Check.town("ages 0 to 40;person a age 10 coin 0;person b age 39 coin 0;person c age 20 coin 0;"
            + "friend b to a price 0;friend b to c price 0;friend c to b price 0;");
        x.lend(1, 0, 5, 1);
        x.lend(1, 2, 5, 1);
        x.give(2, 1, 1);
        CHECK.due("year()", x.year(), 0);
        CHECK.due("the first came back", x.person(0, 0), 11);
        CHECK.due("the second did not", x.person(2, 0), 25);
        CHECK.due("who lent", x.person(1, 0), 36);
        CHECK.due("one DEFAULT", x.about(9), 1);
        CHECK.due("both are OVER", x.loan(0, 4) + x.loan(1, 4), 2);
    }

    private static void undone() {
        YearHands x = Check.town(TOWN + "odds 100;draw 5;");
        x.target(0, 50);
        x.face(0, 50);
        x.later(3);
        CHECK.due("give(0, 1, 5)", x.give(0, 1, 5), 10);
        CHECK.due("lend(0, 1, 2, 3)", x.lend(0, 1, 2, 3), 0);
        CHECK.due("year()", x.year(), 3);
        CHECK.due("ACTS", x.about(10), 3);
        CHECK.due("undo()", x.undo(), true);
        CHECK.due("alive again", x.about(7), 7);
        CHECK.due("the YEAR", x.about(5), 0);
        CHECK.due("the SEED", x.about(6), 5);
        CHECK.due("younger again", x.person(0, 0), 23);
        CHECK.due("ACTS", x.about(10), 2);
        CHECK.due("undone ACTS", x.about(11), 1);
        CHECK.due("undo()", x.undo(), true);
        CHECK.due("no LOANS", x.about(8), 0);
        CHECK.due("loan(0, 0)", x.loan(0, 0), -1);
        CHECK.due("undo()", x.undo(), true);
        CHECK.due("coins are back", x.person(1, 1), 10);
        CHECK.due("coins are gone", x.person(0, 1), 5);
        CHECK.due("undo() of none", x.undo(), false);
        CHECK.due("undone ACTS", x.about(11), 3);
        CHECK.due("TARGETS stay", x.about(12), 1);
        CHECK.due("FACES stay", x.about(13), 1);
        CHECK.due("the TIME stays", x.about(14), 3);
        CHECK.due("redo()", x.redo(), true);
        CHECK.due("the GIFT again", x.person(0, 0), 25);
        CHECK.due("redo()", x.redo(), true);
        CHECK.due("the LOAN again", x.loan(0, 2), 2);
        CHECK.due("redo()", x.redo(), true);
        CHECK.due("dead again", x.about(7), 0);
        CHECK.due("redo() of none", x.redo(), false);
        x.undo();
        x.undo();
        CHECK.due("another LOAN", x.lend(0, 1, 1, 9), 0);
        CHECK.due("another ACT: no REDO", x.redo(), false);
        CHECK.due("redone ACTS", x.about(11), 0);
        CHECK.due("the other LOAN's years", x.loan(0, 2), 1);
        CHECK.due("the other LOAN is not OVER", x.loan(0, 4), 0);
        x.undo();
        CHECK.due("what can't be is no ACT", x.give(0, 0, 1), -1);
        CHECK.due("redo() still", x.redo(), true);
    }

    private static void mostActs(int acts) {
        YearHands x = new YearHands();
        for (int i = 0; i < acts; i++) {
            x.year();
        }
        CHECK.due("ACTS at most", x.about(10), 40);
        for (int i = 1; i <= 40; i++) {
            CHECK.due("undo " + i, x.undo(), true);
            CHECK.due("the YEAR behind undo " + i, x.about(5), acts - i);
        }
        CHECK.due("the oldest are gone", x.undo(), false);
        CHECK.due("the YEAR", x.about(5), acts - 40);
        CHECK.due("to be redone", x.about(11), 40);
        for (int i = 1; i <= 40; i++) {
            CHECK.due("redo " + i, x.redo(), true);
            CHECK.due("the YEAR behind redo " + i, x.about(5), acts - 40 + i);
        }
        CHECK.due("no more", x.redo(), false);
        x.undo();
        x.year();
        CHECK.due("ACTS", x.about(10), 40);
        x.year();
        CHECK.due("ACTS", x.about(10), 40);
        CHECK.due("the YEAR", x.about(5), acts + 1);
    }

    private static void mostLoans() {
        YearHands x = Check.town("person a age 100 coin 0;person b age 0 coin 0;friend a to b price 0;");
        for (int i = 0; i < 30; i++) {
            CHECK.due("lend " + i, x.lend(0, 1, 1, 1), i);
        }
        CHECK.due("the thirty-first", x.lend(0, 1, 1, 1), -1);
        CHECK.due("year()", x.year(), 0);
        CHECK.due("all came back", x.person(1, 0), 1);
        CHECK.due("the last one is OVER", x.loan(29, 4), 1);
        CHECK.due("those that are OVER count", x.lend(0, 1, 1, 5), -1);
        x.undo();
        x.undo();
        CHECK.due("an undone one does not", x.lend(0, 1, 1, 5), 29);
        CHECK.due("loan(29, 3)", x.loan(29, 3), 5);
        CHECK.due("loan(30, 0)", x.loan(30, 0), -1);
    }

    private static void boxes() {
        YearHands x = Check.town(TOWN + "odds 100 * (age > 59);draw 5;");
        CHECK.due("back(0) of nothing", x.back(0), -1);
        CHECK.due("image(-1)", x.image(-1), -1);
        CHECK.due("image(3)", x.image(3), -1);
        CHECK.due("back(-1)", x.back(-1), -1);
        CHECK.due("back(3)", x.back(3), -1);
        CHECK.due("image(0)", x.image(0), 0);
        x.give(0, 1, 5);
        x.lend(0, 1, 1, 2);
        x.lend(1, 2, 5, 1);
        x.year();
        CHECK.due("image(2)", x.image(2), 1);
        CHECK.due("one is dead", x.year(), 0);
        x.target(0, 30);
        CHECK.due("back(0)", x.back(0), 0);
        CHECK.due("the YEAR", x.about(5), 0);
        CHECK.due("ages", x.person(0, 0), 30);
        CHECK.due("coins", x.person(0, 1), 5);
        CHECK.due("LOANS", x.about(8), 0);
        CHECK.due("the SEED", x.about(6), 5);
        CHECK.due("TARGETS stay", x.about(12), 1);
        CHECK.due("no ACTS are kept", x.undo(), false);
        CHECK.due("none to be redone", x.redo(), false);
        CHECK.due("about(10)", x.about(10), 0);
        CHECK.due("back(1) of nothing", x.back(1), -1);
        CHECK.due("a year on", x.year(), 0);
        CHECK.due("back(2)", x.back(2), 1);
        CHECK.due("the YEAR", x.about(5), 1);
        CHECK.due("LOANS", x.about(8), 2);
        CHECK.due("the first lasts", x.loan(0, 4), 0);
        CHECK.due("the second is OVER", x.loan(1, 4), 1);
        CHECK.due("undo() of none", x.undo(), false);
        CHECK.due("the same BOX again", x.back(0), 0);
        x.give(0, 1, 1);
        CHECK.due("another image there", x.image(0), 0);
        x.give(0, 1, 1);
        CHECK.due("back(0)", x.back(0), 0);
        CHECK.due("ages", x.person(0, 0), 29);
        YearHands fresh = new YearHands();
        CHECK.due("image(1) of the empty TOWN", fresh.image(1), 0);
        fresh.year();
        CHECK.due("back(1)", fresh.back(1), 0);
        CHECK.due("DEFAULTS", fresh.about(9), 0);
    }
}
