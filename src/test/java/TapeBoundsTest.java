/** Promises 1 to 5: each sentence that names a boundary case has one test, named after it. */
public final class TapeBoundsTest {
    private static final Check CHECK = new Check("TapeBoundsTest");
    private static final int BLANKS = 0x20202020;
    private static final String TOWN = "ages 10 to 60;person a age 30 coin 50;person b age 20 coin 50;friend a to b price 2;"
        + "right r age;odds 100*(age>58);draw 7;";

    public static void main(String[] args) {
        CHECK.runAll(TapeBoundsTest.class);
    }

    private static int feedBlanks(YearHands x) {
        return x.feed(BLANKS, BLANKS, BLANKS, BLANKS, BLANKS);
    }

    private static YearHands fed(int bytes) {
        YearHands x = new YearHands();
        Check.put(x, " ".repeat(bytes));
        return x;
    }

    /** A TOWN in which all that town() ends has begun. */
    private static YearHands busy() {
        YearHands x = Check.town(TOWN);
        x.later(7);
        x.lend(0, 1, 3, 5);
        x.lend(0, 1, 3, 1);
        x.image(0);
        x.image(1);
        x.image(2);
        x.give(0, 1, 1);
        x.year();
        x.give(0, 1, 1);
        x.undo();
        x.target(0, 20);
        x.target(1, 20);
        x.face(1, 22);
        x.safest();
        return x;
    }

    // ---- Promise 1

    /** "An empty TOWN." */
    static void aNewObjectIsAnEmptyTown() {
        YearHands x = new YearHands();
        for (int what = 0; what < 18; what++) {
            CHECK.due("about(" + what + ")", x.about(what), what == 4 ? 120 : 0);
        }
        CHECK.due("person(0, 0)", x.person(0, 0), -1);
        CHECK.due("has(0, 0)", x.has(0, 0), -1);
        CHECK.due("odds(0)", x.odds(0), 0);
        CHECK.due("sum(-1)", x.sum(-1), 0);
    }

    /** "An empty TOWN.": what asks for one by his number finds nobody. */
    static void inAnEmptyTownThereIsNobody() {
        YearHands x = new YearHands();
        CHECK.due("give(0, 1, 1)", x.give(0, 1, 1), -1);
        CHECK.due("lend(0, 1, 1, 1)", x.lend(0, 1, 1, 1), -1);
        CHECK.due("loan(0, 0)", x.loan(0, 0), -1);
        CHECK.due("target(0, 0)", x.target(0, 0), -1);
        CHECK.due("reach(0, 0, 0)", x.reach(0, 0, 0), -1);
        CHECK.due("net(0)", x.net(0), YearHands.GAP);
        CHECK.due("corner(0, 0)", x.corner(0, 0), YearHands.GAP);
        CHECK.due("twice(0)", x.twice(0), -1);
        CHECK.due("all(0, 0)", x.all(0, 0), -1);
        CHECK.due("face(0, 0)", x.face(0, 0), -1);
        CHECK.due("untell(0)", x.untell(0), false);
        CHECK.due("sure(0, 0)", x.sure(0, 0), -1);
        CHECK.due("undo()", x.undo(), false);
        CHECK.due("redo()", x.redo(), false);
        CHECK.due("back(0)", x.back(0), -1);
    }

    /** "An empty TOWN.": what is reckoned of all is reckoned of nobody. */
    static void inAnEmptyTownAllIsReckonedOfNobody() {
        YearHands x = new YearHands();
        CHECK.due("hush()", x.hush(), 0);
        CHECK.due("cheapest()", x.cheapest(), 0);
        CHECK.due("barred()", x.barred(), 0);
        CHECK.due("payments()", x.payments(), 0);
        CHECK.due("ring()", x.ring(), 0);
        CHECK.due("market(0, 0)", x.market(0, 0), 0);
        CHECK.due("rests(0, 0)", x.rests(0, 0), 0);
        CHECK.due("rests(0, 1)", x.rests(0, 1), 0);
        CHECK.due("safest()", x.safest(), 0);
        CHECK.lies("safest()", x);
        CHECK.due("bends()", x.bends(), true);
        CHECK.due("fair(0)", x.fair(0), 0);
        CHECK.lies("fair(0)", x);
        CHECK.due("explained(0)", x.explained(0), 1);
        CHECK.due("forged(0)", x.forged(0), 0);
        CHECK.due("year()", x.year(), 0);
        CHECK.due("the YEAR", x.about(5), 1);
        CHECK.due("the SEED of nobody", x.about(6), 0);
        CHECK.due("undo()", x.undo(), true);
    }

    // ---- Promise 2

    /** "Twenty bytes come ..: how many there are" */
    static void twentyBytesCome() {
        YearHands x = new YearHands();
        CHECK.due("the first feed", feedBlanks(x), 20);
        CHECK.due("the second", feedBlanks(x), 40);
        CHECK.due("about(15)", x.about(15), 40);
    }

    /** "of each number the highest first" */
    static void ofEachNumberTheHighestFirst() {
        YearHands x = new YearHands();
        x.feed(0x64726177, 0x20313233, 0x3b6f6464, 0x73203435, 0x3b202020);
        CHECK.due("draw 123;odds 45;", x.town(), 0);
        CHECK.due("SEED", x.about(6), 123);
        CHECK.due("odds(0)", x.odds(0), 45);
    }

    /** "of each number the highest first": each of the twenty bytes stands at its own place. */
    static void eachByteStandsAtItsPlace() {
        for (int place = 0; place < 20; place++) {
            int[] numbers = {BLANKS, BLANKS, BLANKS, BLANKS, BLANKS};
            numbers[place / 4] ^= 1 << 24 - place % 4 * 8;
            YearHands x = new YearHands();
            x.feed(numbers[0], numbers[1], numbers[2], numbers[3], numbers[4]);
            x.town();
            CHECK.due("FAULT of a byte 33 at " + place, x.fault(0), 1);
            CHECK.due("its place", x.fault(1), place);
        }
    }

    /** "Twenty bytes come": those above 127, of numbers below 0, are bytes, too, and no TOKENS. */
    static void bytesAbove127AreNoTokens() {
        YearHands x = new YearHands();
        CHECK.due("feed", x.feed(0x202020e1, -1, Integer.MIN_VALUE, -1, -1), 20);
        CHECK.due("town()", x.town(), -1);
        CHECK.due("FAULT", x.fault(0), 1);
        CHECK.due("its place", x.fault(1), 3);
    }

    /** "behind those on the TAPE" */
    static void bytesComeBehindThoseOnTheTape() {
        YearHands x = new YearHands();
        x.feed(0x64726177, 0x20312020, BLANKS, BLANKS, BLANKS);
        x.end(6);
        CHECK.due("behind six", x.feed(0x32333b20, BLANKS, BLANKS, BLANKS, BLANKS), 26);
        x.town();
        CHECK.due("SEED", x.about(6), 123);
    }

    /** "NONE .. if there would be more than 1,600": 1,600 may be there. */
    static void aFeedUpTo1600Comes() {
        CHECK.due("the eightieth", feedBlanks(fed(1580)), 1600);
        CHECK.due("by one less", feedBlanks(fed(1579)), 1599);
    }

    /** "NONE, and nothing comes, if there would be more than 1,600" */
    static void aFeedBeyond1600IsNoneAndNothingComes() {
        for (int bytes : new int[] {1581, 1590, 1599, 1600}) {
            YearHands x = fed(bytes);
            CHECK.due("feed behind " + bytes, x.feed(0x21212121, 0x21212121, 0x21212121, 0x21212121, 0x21212121), -1);
            CHECK.due("about(15)", x.about(15), bytes);
            CHECK.due("town(), of blanks alone", x.town(), 0);
        }
    }

    // ---- Promise 3

    /** "The TAPE has its first n bytes: n": all, some, none. */
    static void theTapeHasItsFirstBytes() {
        YearHands x = fed(40);
        CHECK.due("as many as it has", x.end(40), 40);
        CHECK.due("one less", x.end(39), 39);
        CHECK.due("about(15)", x.about(15), 39);
        CHECK.due("none", x.end(0), 0);
        CHECK.due("about(15)", x.about(15), 0);
        CHECK.due("none of none", x.end(0), 0);
    }

    /** "NONE, doing nothing, if it has not so many" */
    static void anEndBeyondIsNone() {
        YearHands x = fed(40);
        CHECK.due("one more", x.end(41), -1);
        CHECK.due("many more", x.end(Integer.MAX_VALUE), -1);
        CHECK.due("about(15)", x.about(15), 40);
        x.end(30);
        CHECK.due("what was taken off", x.end(31), -1);
        CHECK.due("about(15)", x.about(15), 30);
        CHECK.due("one of a new object", new YearHands().end(1), -1);
        YearHands full = fed(1600);
        CHECK.due("1,601 of 1,600", full.end(1601), -1);
        CHECK.due("1,600 of 1,600", full.end(1600), 1600);
    }

    /** "NONE, doing nothing, .. or n is below 0" */
    static void anEndBelow0IsNone() {
        YearHands x = fed(40);
        CHECK.due("end(-1)", x.end(-1), -1);
        CHECK.due("end(MIN)", x.end(Integer.MIN_VALUE), -1);
        CHECK.due("about(15)", x.about(15), 40);
    }

    // ---- Promise 4

    /** "The TAPE (empty then) is the TOWN": behind a TOWN, and an empty TAPE is an empty TOWN. */
    static void theTapeIsEmptyThen() {
        YearHands x = new YearHands();
        Check.put(x, TOWN);
        CHECK.due("town()", x.town(), 2);
        CHECK.due("about(15)", x.about(15), 0);
        CHECK.due("town() of the empty TAPE", x.town(), 0);
        CHECK.due("PEOPLE", x.about(0), 0);
        CHECK.due("FRIENDS", x.about(1), 0);
        CHECK.due("RIGHTS", x.about(2), 0);
        CHECK.due("MOST", x.about(4), 120);
        CHECK.due("SEED", x.about(6), 0);
        CHECK.due("units", x.about(16), 0);
        CHECK.due("odds(60)", x.odds(60), 0);
    }

    /** "how many PEOPLE": none, one, eight. */
    static void townAnswersHowManyPeople() {
        StringBuilder text = new StringBuilder();
        for (int people = 0; people <= 8; people++) {
            CHECK.due("PEOPLE of " + text, Check.tell(new YearHands(), text.toString()), people);
            text.append("person ").append((char) ('a' + people)).append(" age 1 coin 0;");
        }
    }

    /** "(all as told, ..": ages, coins, the SEED, DEFAULTS. */
    static void allIsAsTold() {
        YearHands x = busy();
        CHECK.due("told again", Check.tell(x, TOWN), 2);
        CHECK.due("age", x.person(0, 0), 30);
        CHECK.due("age", x.person(1, 0), 20);
        CHECK.due("coin", x.person(0, 1), 50);
        CHECK.due("coin", x.person(1, 1), 50);
        CHECK.due("SEED", x.about(6), 7);
    }

    /** "is the TOWN": FRIENDS, RIGHTS, PEOPLE of the one before are none, though it had more. */
    static void whatWasToldBeforeIsNotThere() {
        String people = "person a age 30 coin 50;person b age 20 coin 50;person c age 10 coin 50;";
        YearHands x = Check.town(people + "friend a to b price 2;friend c to a price 0;friend b to c price 0;right r age;right s age;");
        Check.tell(x, people + "friend a to b price 2;right r age>20;");
        CHECK.due("give(2, 0, 1)", x.give(2, 0, 1), -1);
        CHECK.due("lend(1, 2, 1, 1)", x.lend(1, 2, 1, 1), -1);
        CHECK.due("has(0, 1)", x.has(0, 1), -1);
        CHECK.due("twice(0)", x.twice(0), 1);
        CHECK.due("all(1, 0)", x.all(1, 0), 0);
        CHECK.due("reach(2, 0, 0)", x.reach(2, 0, 0), -1);
        CHECK.due("explained(0)", x.explained(0), 1 + 9);
        x.target(2, 9);
        x.target(0, 31);
        CHECK.due("cheapest()", x.cheapest(), -1);
        CHECK.due("barred()", x.barred(), 1 | 4);
        Check.tell(x, "person a age 30 coin 50;");
        CHECK.due("person(1, 0)", x.person(1, 0), -1);
        CHECK.due("sum(-1)", x.sum(-1), 30);
        CHECK.due("market(0, 0)", x.market(0, 0), 0);
        CHECK.due("payments()", x.payments(), 0);
    }

    /** "all alive" */
    static void allAreAlive() {
        YearHands x = Check.town("person a age 1 coin 0;person b age 1 coin 0;odds 100;");
        CHECK.due("year()", x.year(), 2);
        CHECK.due("who is alive", x.about(7), 0);
        Check.tell(x, "person a age 1 coin 0;person b age 1 coin 0;person c age 1 coin 0;");
        CHECK.due("who is alive", x.about(7), 7);
        CHECK.due("person(0, 2)", x.person(0, 2), 1);
    }

    /** "YEAR 0" */
    static void theYearIs0() {
        YearHands x = busy();
        CHECK.due("the YEAR before", x.about(5), 1);
        Check.tell(x, TOWN);
        CHECK.due("the YEAR", x.about(5), 0);
    }

    /** "no LOANS" */
    static void thereAreNoLoans() {
        YearHands x = busy();
        CHECK.due("LOANS before", x.about(8), 2);
        CHECK.due("the second is OVER", x.loan(1, 4), 1);
        Check.tell(x, TOWN);
        CHECK.due("LOANS", x.about(8), 0);
        CHECK.due("loan(0, 0)", x.loan(0, 0), -1);
        CHECK.due("net(0)", x.net(0), 0);
        CHECK.due("the next one's number", x.lend(0, 1, 1, 9), 0);
        CHECK.due("the one behind it", x.lend(0, 1, 1, 9), 1);
        CHECK.due("the first is not OVER", x.loan(0, 4), 0);
        CHECK.due("nor is the second", x.loan(1, 4), 0);
    }

    /** "no LOANS": no DEFAULTS. */
    static void thereAreNoDefaults() {
        String town = "ages 10 to 20;person a age 15 coin 0;person b age 15 coin 0;friend a to b price 0;friend b to a price 0;";
        YearHands x = Check.town(town);
        x.lend(0, 1, 5, 1);
        x.give(1, 0, 10);
        x.year();
        CHECK.due("DEFAULTS before", x.about(9), 1);
        Check.tell(x, town);
        CHECK.due("DEFAULTS", x.about(9), 0);
    }

    /** "no ACTS are kept" */
    static void noActsAreKept() {
        YearHands x = busy();
        CHECK.due("ACTS before", x.about(10), 4);
        CHECK.due("undone ACTS before", x.about(11), 1);
        Check.tell(x, TOWN);
        CHECK.due("ACTS", x.about(10), 0);
        CHECK.due("undone ACTS", x.about(11), 0);
        CHECK.due("undo()", x.undo(), false);
        CHECK.due("redo()", x.redo(), false);
    }

    /** "no TARGETS .. are" */
    static void thereAreNoTargets() {
        YearHands x = busy();
        CHECK.due("TARGETS before", x.about(12), 2);
        Check.tell(x, TOWN);
        CHECK.due("TARGETS", x.about(12), 0);
        CHECK.due("cheapest()", x.cheapest(), 0);
        CHECK.due("hush()", x.hush(), 0);
    }

    /** "no .. FACES are" */
    static void thereAreNoFaces() {
        YearHands x = busy();
        CHECK.due("FACES before", x.about(13), 1);
        Check.tell(x, TOWN);
        CHECK.due("FACES", x.about(13), 0);
        CHECK.due("untell(0)", x.untell(0), false);
        CHECK.due("forged(7)", x.forged(7), 0);
        CHECK.due("the next one's number", x.face(0, 30), 0);
    }

    /** "nothing lies there" */
    static void nothingLiesThere() {
        YearHands x = busy();
        CHECK.due("numbers before", x.about(17), 2);
        Check.tell(x, TOWN);
        CHECK.lies("town()", x);
    }

    /** "BOXES are empty then" */
    static void boxesAreEmpty() {
        YearHands x = busy();
        Check.tell(x, TOWN);
        for (int box = 0; box < 3; box++) {
            CHECK.due("back(" + box + ")", x.back(box), -1);
        }
    }

    /** "the TIME stays" */
    static void theTimeStays() {
        YearHands x = busy();
        Check.tell(x, TOWN);
        CHECK.due("TIME", x.about(14), 7);
        x.face(1, 22);
        CHECK.due("before it was TOLD", x.forged(6), 0);
        CHECK.due("when it was TOLD", x.forged(7), 2);
    }

    /** "NONE: a FAULT (the TAPE is empty then, too" */
    static void theTapeIsEmptyBehindAFault() {
        YearHands x = new YearHands();
        CHECK.due("a FAULT", Check.tell(x, "draw 1000;"), -1);
        CHECK.due("about(15)", x.about(15), 0);
        CHECK.due("town() of the empty TAPE", x.town(), 0);
        CHECK.due("no FAULT", x.fault(0), 0);
    }

    /** "(..; all else stays)": whatever about() and person() tell, what lies there. */
    static void allElseStaysBehindAFault() {
        YearHands x = busy();
        int[] before = new int[18];
        for (int what = 0; what < 18; what++) {
            before[what] = x.about(what);
        }
        int age = x.person(0, 0);
        int coin = x.person(0, 1);
        int lying = x.lies(1);
        Check.tell(x, "ages 0 to 150;draw 99;person c age 150 coin 999 family 3;right q 0;right p 0;odds 0;person d");
        for (int what = 0; what < 18; what++) {
            CHECK.due("about(" + what + ")", x.about(what), before[what]);
        }
        CHECK.due("person(0, 0)", x.person(0, 0), age);
        CHECK.due("person(0, 1)", x.person(0, 1), coin);
        CHECK.due("lies(1)", x.lies(1), lying);
        CHECK.due("has(0, 0)", x.has(0, 0), 1);
        CHECK.due("odds(59)", x.odds(59), 100);
        CHECK.due("odds(61)", x.odds(61), -1);
        CHECK.due("forged(7)", x.forged(7), 2);
        CHECK.due("FRIENDS", x.give(0, 1, 1), 2);
    }

    /** "all else stays": ACTS, TARGETS, LOANS, BOXES. */
    static void whatIsKeptStaysBehindAFault() {
        YearHands x = busy();
        CHECK.due("a FAULT", Check.tell(x, "!"), -1);
        CHECK.due("redo()", x.redo(), true);
        CHECK.due("undo()", x.undo(), true);
        CHECK.due("undo()", x.undo(), true);
        CHECK.due("the YEAR", x.about(5), 0);
        CHECK.due("loan(0, 2)", x.loan(0, 2), 3);
        CHECK.due("hush()", x.hush(), 2);
        CHECK.due("back(0)", x.back(0), 0);
        CHECK.due("age", x.person(0, 0), 24);
        CHECK.due("back(2)", x.back(2), 0);
    }

    // ---- Promise 5

    /** "what 0: its FAULT (0)": 0 if there is none, also of a new object. */
    static void theFaultIs0IfThereIsNone() {
        CHECK.due("of a new object", new YearHands().fault(0), 0);
        YearHands x = CHECK.good("draw 7;");
        CHECK.due("of a TOWN", x.fault(0), 0);
    }

    /** "1: its place (NONE)": NONE if there is none. */
    static void itsPlaceIsNoneIfThereIsNone() {
        CHECK.due("of a new object", new YearHands().fault(1), -1);
        YearHands x = CHECK.good("draw 7;");
        CHECK.due("of a TOWN", x.fault(1), -1);
    }

    /** "Of the latest town()": not of one before, whichever had the FAULT. */
    static void theFaultIsOfTheLatestTown() {
        YearHands x = new YearHands();
        Check.tell(x, "draw 1000;");
        CHECK.due("FAULT", x.fault(0), 4);
        CHECK.due("place", x.fault(1), 5);
        Check.tell(x, " !");
        CHECK.due("FAULT", x.fault(0), 1);
        CHECK.due("place", x.fault(1), 1);
        Check.put(x, "draw");
        CHECK.due("FAULT, another text fed", x.fault(0), 1);
        Check.tell(x, "draw 7;");
        CHECK.due("FAULT", x.fault(0), 0);
        CHECK.due("place", x.fault(1), -1);
    }

    /** "NONE for another what." */
    static void anotherWhatOfAFaultIsNone() {
        YearHands x = new YearHands();
        Check.tell(x, "  !");
        for (int what : new int[] {-1, 2, Integer.MIN_VALUE, Integer.MAX_VALUE}) {
            CHECK.due("fault(" + what + ")", x.fault(what), -1);
        }
    }
}
