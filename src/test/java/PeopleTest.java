/** Promises 6 to 9: person, has, odds, sum; and formulas by what comes of them. */
public final class PeopleTest {
    private static final Check CHECK = new Check("PeopleTest");

    public static void main(String[] args) {
        people();
        rights();
        formulas();
        odds();
        sums();
        CHECK.finish();
    }

    private static void people() {
        YearHands x = Check.town("person a age 30 coin 7 need 40 family 3;person b age 20 coin 999;odds 50;draw 0;");
        int[] first = {30, 7, 1, 40, 3};
        int[] second = {20, 999, 1, 20, 0};
        for (int what = 0; what < 5; what++) {
            CHECK.due("person(0, " + what + ")", x.person(0, what), first[what]);
            CHECK.due("person(1, " + what + ")", x.person(1, what), second[what]);
        }
        CHECK.due("person(0, 5)", x.person(0, 5), -1);
        CHECK.due("person(0, -1)", x.person(0, -1), -1);
        CHECK.due("person(2, 0)", x.person(2, 0), -1);
        CHECK.due("person(-1, 0)", x.person(-1, 0), -1);
        CHECK.due("person(MIN, 0)", x.person(Integer.MIN_VALUE, 0), -1);
        CHECK.due("person(MAX, 0)", x.person(Integer.MAX_VALUE, 0), -1);
        // The SEED becomes 71: a tenth of it is 7, below 50; then 9798 modulo 1,000: 79, not below 50.
        CHECK.due("year()", x.year(), 1);
        CHECK.due("the dead keep their age", x.person(0, 0), 31);
        CHECK.due("the dead keep their coin", x.person(0, 1), 7);
        CHECK.due("the dead are not alive", x.person(0, 2), 0);
        CHECK.due("the other one is", x.person(1, 2), 1);
        CHECK.due("need stays", x.person(1, 3), 20);
    }

    private static void rights() {
        YearHands x = Check.town("person a age 30 coin 7 family 2;person b age 20 coin 9;odds 100 * (age > 30);"
            + "right old age > 25;right rich coin > 8;right kin family = 2;right late year > 0;right no 0;right neg 0 - 1;");
        int[] a = {1, 0, 1, 0, 0, 1};
        int[] b = {0, 1, 0, 0, 0, 1};
        for (int r = 0; r < 6; r++) {
            CHECK.due("has(0, " + r + ")", x.has(0, r), a[r]);
            CHECK.due("has(1, " + r + ")", x.has(1, r), b[r]);
        }
        CHECK.due("has(0, 6)", x.has(0, 6), -1);
        CHECK.due("has(0, -1)", x.has(0, -1), -1);
        CHECK.due("has(2, 0)", x.has(2, 0), -1);
        CHECK.due("has(-1, 0)", x.has(-1, 0), -1);
        CHECK.due("year()", x.year(), 1);
        CHECK.due("the dead have no RIGHT", x.has(0, 0), 0);
        CHECK.due("the living by the YEAR", x.has(1, 3), 1);
    }

    private static void formulas() {
        value("2 + 3 * 4", 14);
        value("(2 + 3) * 4", 20);
        value("20 - 3 - 4", 13);
        value("100 / 7 / 2", 7);
        value("100 / 7 * 2", 28);
        value("17 % 5 * 2", 4);
        value("7 / 0", 0);
        value("7 % 0", 0);
        value("(0 - 7) / 2 + 10", 7);
        value("(0 - 7) % 4 + 10", 7);
        value("1 = 1 and 2 = 2", 1);
        value("5 and 6", 1);
        value("5 or 0", 1);
        value("0 or 0", 0);
        value("not 5", 0);
        value("not 0", 1);
        value("not not 5", 1);
        value("not 1 = 2", 1);
        value("not 1 and 0", 0);
        value("0 and 0 or 1", 1);
        value("1 or 0 and 0", 1);
        value("(1 or 0) and 0", 0);
        value("1 < 2", 1);
        value("2 < 2", 0);
        value("2 > 1", 1);
        value("2 > 2", 0);
        value("3 = 3", 1);
        value("3 = 4", 0);
        value("1 + 1 = 2 and 3 > 1 + 1", 1);
        value("(1 < 2) + (3 < 4) + (5 < 4)", 2);
        value("9999", 9999);
        value("0000", 0);
        value("0012 + 1", 13);
        value("age", 33);
        value("coin", 44);
        value("family", 2);
        value("year", 0);
        // 9999 * 9999 * 9999 wraps, as do products of it.
        value("9999*9999*9999%1000", (9999 * 9999 * 9999) % 1000);
        value("0-9999*9999*43/2", -9999 * 9999 * 43 / 2);
        // 2,147,483,648 is the least int; by -1 it stays so.
        value("2048*1024*1024/(0-1)", Integer.MIN_VALUE);
        value("2048*1024*1024%(0-1)", 0);
        value("2048*1024*1024<0", 1);
    }

    /** A formula's value, found by asking whether it is each of some. */
    private static void value(String formula, int due) {
        String told = due < 0 ? "0-" + parts(-(long) due) : parts(due);
        YearHands x = Check.town("person a age 33 coin 44 family 2;right x " + formula + ";right y (" + formula + ")="
            + told + ";");
        CHECK.due(formula + " is " + due, x.has(0, 1), 1);
        CHECK.due(formula + " is not 0", x.has(0, 0), due == 0 ? 0 : 1);
    }

    /** A number above 9,999 as a formula, signs turned for what is taken off. */
    private static String parts(long number) {
        if (number < 10000) {
            return "" + number;
        }
        return "(" + parts(number / 1000) + "*1000+" + number % 1000 + ")";
    }

    private static void odds() {
        YearHands x = Check.town("ages 10 to 60;person a age 20 coin 50 family 3;odds age - 20 + year * 100 + coin + family;");
        CHECK.due("odds(10), 0 at least", x.odds(10), 0);
        CHECK.due("odds(20)", x.odds(20), 0);
        CHECK.due("odds(21), coin and family are 0", x.odds(21), 1);
        CHECK.due("odds(60)", x.odds(60), 40);
        CHECK.due("odds(9)", x.odds(9), -1);
        CHECK.due("odds(61)", x.odds(61), -1);
        x.year();
        CHECK.due("odds(20), a YEAR later", x.odds(20), 100);
        CHECK.due("odds(60), 100 at most", x.odds(60), 100);
        CHECK.due("odds(10), a YEAR later", x.odds(10), 90);
        CHECK.due("odds that are not told", Check.town("person a age 1 coin 1;").odds(120), 0);
    }

    private static void sums() {
        YearHands x = Check.town("person a age 30 coin 7 family 2;person b age 20 coin 9;person c age 5 coin 9 family 2;"
            + "odds 100 * (age = 21);");
        CHECK.due("sum(-1)", x.sum(-1), 55);
        CHECK.due("sum(0)", x.sum(0), 20);
        CHECK.due("sum(1)", x.sum(1), 0);
        CHECK.due("sum(2)", x.sum(2), 35);
        CHECK.due("sum(3)", x.sum(3), 0);
        CHECK.due("sum(4)", x.sum(4), YearHands.GAP);
        CHECK.due("sum(-2)", x.sum(-2), YearHands.GAP);
        CHECK.due("year()", x.year(), 1);
        CHECK.due("sum(-1) without the dead", x.sum(-1), 37);
        CHECK.due("sum(0) without the dead", x.sum(0), 0);
    }
}
