/** Promise 41, the constants, the last call: each sentence that names a boundary case has one test, named after it. */
public final class AboutBoundsTest {
    private static final Check CHECK = new Check("AboutBoundsTest");
    private static final int[] FAR_OFF = {-1, Integer.MIN_VALUE, Integer.MAX_VALUE};
    private static final String TOWN = "ages 10 to 60;person a age 30 coin 50;person b age 20 coin 50;friend a to b price 2;"
        + "friend b to a price 2;right r age;right s (age);odds 100*(age>58);draw 7;";

    public static void main(String[] args) {
        CHECK.runAll(AboutBoundsTest.class);
    }

    private static YearHands town() {
        return Check.town(TOWN);
    }

    /** "NONE = -1", "GAP = -1000000" */
    static void theConstants() {
        CHECK.due("NONE", YearHands.NONE, -1);
        CHECK.due("GAP", YearHands.GAP, -1000000);
    }

    /** "What 0: PEOPLE, 1: FRIENDS, 2: RIGHTS, 3: LEAST, 4: MOST" */
    static void aboutWhatWasTold() {
        YearHands x = town();
        int[] due = {2, 2, 2, 10, 60};
        for (int what = 0; what < due.length; what++) {
            CHECK.due("about(" + what + ")", x.about(what), due[what]);
        }
        x = Check.town("person a age 1 coin 1;person b age 1 coin 1;person c age 1 coin 1;friend a to b price 1;");
        int[] other = {3, 1, 0, 0, 120};
        for (int what = 0; what < other.length; what++) {
            CHECK.due("about(" + what + ")", x.about(what), other[what]);
        }
    }

    /** "5: the YEAR, 6: the SEED" */
    static void aboutTheYearAndTheSeed() {
        YearHands x = town();
        CHECK.due("about(5)", x.about(5), 0);
        CHECK.due("about(6)", x.about(6), 7);
        x.year();
        CHECK.due("about(5)", x.about(5), 1);
        CHECK.due("about(6)", x.about(6), 181);
    }

    /** "7: who is alive (bits)": nobody, one, eight. */
    static void aboutWhoIsAlive() {
        CHECK.due("nobody", new YearHands().about(7), 0);
        StringBuilder text = new StringBuilder();
        for (char p = 'a'; p <= 'h'; p++) {
            text.append("person ").append(p).append(" age ").append(p == 'h' ? 9 : 5).append(" coin 0;");
        }
        YearHands x = Check.town(text + "odds 100*(age<9)+100*(year=2);");
        CHECK.due("eight", x.about(7), 255);
        CHECK.due("seven die", x.year(), 7);
        CHECK.due("the eighth", x.about(7), 128);
        CHECK.due("the eighth dies", x.year(), 1);
        CHECK.due("nobody", x.about(7), 0);
    }

    /** "8: LOANS": those that are OVER, too. "9: DEFAULTS" */
    static void aboutLoansAndDefaults() {
        YearHands x = Check.town("ages 10 to 40;person a age 10 coin 0;person b age 40 coin 0;friend b to a price 0;");
        CHECK.due("LOANS", x.about(8), 0);
        x.lend(1, 0, 5, 1);
        x.lend(1, 0, 5, 9);
        CHECK.due("LOANS", x.about(8), 2);
        CHECK.due("DEFAULTS", x.about(9), 0);
        x.year();
        CHECK.due("LOANS, one is OVER", x.about(8), 2);
        CHECK.due("no DEFAULT", x.about(9), 0);
        x.lend(1, 0, 1, 2);
        x.undo();
        CHECK.due("LOANS, one taken back", x.about(8), 2);
    }

    /** "10: ACTS that can be undone, 11: redone" */
    static void aboutActs() {
        YearHands x = town();
        x.give(0, 1, 1);
        x.give(0, 1, 1);
        x.give(0, 1, 1);
        x.undo();
        CHECK.due("undone", x.about(10), 2);
        CHECK.due("redone", x.about(11), 1);
        x.redo();
        CHECK.due("undone", x.about(10), 3);
        CHECK.due("redone", x.about(11), 0);
    }

    /** "12: TARGETS, 13: FACES, 14: the TIME" */
    static void aboutTargetsFacesTheTime() {
        YearHands x = town();
        x.target(0, 20);
        x.face(0, 20);
        x.face(1, 20);
        x.later(3);
        CHECK.due("TARGETS", x.about(12), 1);
        CHECK.due("FACES", x.about(13), 2);
        CHECK.due("TIME", x.about(14), 3);
        x.untell(0);
        CHECK.due("FACES, one is UNTOLD", x.about(13), 2);
    }

    /** "15: bytes on the TAPE" */
    static void aboutBytesOnTheTape() {
        YearHands x = town();
        CHECK.due("none", x.about(15), 0);
        x.feed(1, 2, 3, 4, 5);
        CHECK.due("twenty", x.about(15), 20);
        x.end(7);
        CHECK.due("seven", x.about(15), 7);
    }

    /** "16: units": of all RIGHTS and odds, an ( e ) and what is in it. */
    static void aboutUnits() {
        CHECK.due("units", town().about(16), 1 + 2 + 4);
        CHECK.due("without an e", Check.town("draw 1;").about(16), 0);
    }

    /** "17: numbers that lie there" */
    static void aboutNumbersThatLieThere() {
        YearHands x = town();
        CHECK.due("none", x.about(17), 0);
        x.safest();
        CHECK.due("two", x.about(17), 2);
        x.twice(9);
        CHECK.due("none", x.about(17), 0);
    }

    /** "NONE for another what." */
    static void anotherWhatOfAboutIsNone() {
        YearHands x = town();
        CHECK.due("about(17)", x.about(17), 0);
        CHECK.due("about(18)", x.about(18), -1);
        for (int what : FAR_OFF) {
            CHECK.due("about(" + what + ")", x.about(what), -1);
        }
    }

    /** "An object is used for at most 512 calls": the last of them is answered as the first, whatever they were. */
    static void theLastOf512Calls() {
        YearHands x = town();
        for (int i = 0; i < 120; i++) {
            CHECK.due("a GIFT", x.give(i % 2, 1 - i % 2, 5), 10);
            x.year();
            x.undo();
        }
        CHECK.due("ACTS", x.about(10), 39);
        CHECK.due("a", x.person(0, 0), 30);
        x = new YearHands();
        for (int call = 1; call < 512; call++) {
            CHECK.due("call " + call, x.year(), 0);
        }
        CHECK.due("the 512th", x.about(5), 511);
    }

    /** LANGUAGE.md: "No call may ever throw or fail to end, for any arguments in any state": what can't be does nothing. */
    static void whateverIsToldNothingIsDone() {
        int[] odd = {Integer.MIN_VALUE, Integer.MIN_VALUE + 1, -1000000, -2, -1, 1001, 1601, 65536, Integer.MAX_VALUE - 1,
            Integer.MAX_VALUE};
        for (int a : odd) {
            YearHands x = town();
            for (int b : odd) {
                askOfTwo(x, a, b);
            }
            askOfOne(x, a);
            int[] due = {2, 2, 2, 10, 60, 0, 7, 3, 0, 0, 0, 0, 0, 0, 0, 0, 7, 0};
            for (int what = 0; what < due.length; what++) {
                CHECK.due("about(" + what + ") behind " + a, x.about(what), due[what]);
            }
            CHECK.due("a behind " + a, x.person(0, 0), 30);
            CHECK.due("b behind " + a, x.person(1, 0), 20);
        }
    }

    private static void askOfTwo(YearHands x, int a, int b) {
        x.person(a, b);
        x.has(a, b);
        x.give(a, b, a);
        x.lend(0, 1, a, b);
        x.lend(a, b, 1, 1);
        x.loan(a, b);
        x.target(a, b);
        x.reach(a, b, a);
        x.market(a, b);
        x.rests(a, b);
        x.corner(a, b);
        x.all(a, b);
        x.face(a, b);
        x.sure(a, b);
    }

    private static void askOfOne(YearHands x, int a) {
        x.give(0, 1, a);
        x.lend(0, 1, 1, a);
        x.target(0, a);
        x.target(a, 20);
        x.reach(0, 0, a);
        x.corner(0, a);
        x.face(0, a);
        x.face(a, 20);
        x.later(a);
        x.end(a);
        x.image(a);
        x.back(a);
        x.untell(a);
        x.fault(a);
        x.odds(a);
        x.sum(a);
        x.net(a);
        x.twice(a);
        x.fair(a);
        x.lies(a);
        x.explained(a);
        x.sure(0, a);
        x.forged(a);
        x.about(a);
    }
}
