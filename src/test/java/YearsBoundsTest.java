/** YEARS, UNDO, REDO, BOXES, promises 12 to 14, 39, 40: each boundary case has one test, named after its sentence. */
public final class YearsBoundsTest {
    private static final Check CHECK = new Check("YearsBoundsTest");
    private static final int[] FAR_OFF = {-1, 3, Integer.MIN_VALUE, Integer.MAX_VALUE};
    /** Years go from b to a, from a to c and from c to b, for nothing. */
    private static final String RING = "ages 10 to 40;person a age 10 coin 0;person b age 39 coin 0;person c age 20 coin 0;"
        + "friend b to a price 0;friend a to c price 0;friend c to b price 0;";
    private static final String ONE = "person a age 30 coin 0;";

    public static void main(String[] args) {
        CHECK.runAll(YearsBoundsTest.class);
    }

    private static void ages(String what, YearHands x, int... due) {
        for (int p = 0; p < due.length; p++) {
            CHECK.due(what + ": person(" + p + ", 0)", x.person(p, 0), due[p]);
        }
    }

    /** How many of one PERSON die in a first YEAR behind a draw, by ODDS. */
    private static int dead(int draw, int odds) {
        return Check.town(ONE + "draw " + draw + ";odds " + odds + ";").year();
    }

    // ---- a YEAR, promise 12

    /** "A YEAR: it goes up by 1" */
    static void theYearGoesUpBy1() {
        YearHands x = Check.town(ONE);
        for (int year = 1; year <= 3; year++) {
            x.year();
            CHECK.due("the YEAR", x.about(5), year);
        }
    }

    /**
     * "NONE, doing nothing, if it would be above 1,000": 1,000 may be. No object gets so far by 512 calls, and what later calls
     * answer is free by the document: this test alone makes more, as it holds the class to what promise 12 says of it.
     */
    static void theYearIs1000AtMost() {
        YearHands x = Check.town("ages 0 to 150;" + ONE);
        for (int year = 1; year <= 999; year++) {
            x.year();
        }
        CHECK.due("the last YEAR", x.year(), 0);
        CHECK.due("the YEAR", x.about(5), 1000);
        int seed = x.about(6);
        CHECK.due("beyond it", x.year(), -1);
        CHECK.due("the YEAR", x.about(5), 1000);
        CHECK.due("SEED", x.about(6), seed);
        CHECK.due("ACTS", x.about(10), 40);
    }

    /** "all who are alive are one year older" */
    static void allWhoAreAliveAreOneYearOlder() {
        YearHands x = Check.town(RING);
        x.year();
        ages("older", x, 11, 40, 21);
    }

    /** "(MOST at most)" */
    static void nobodyIsOlderThanMost() {
        YearHands x = Check.town("ages 0 to 50;person a age 49 coin 0;person b age 50 coin 0;");
        x.year();
        ages("MOST", x, 50, 50);
        x.year();
        ages("MOST still", x, 50, 50);
        x = Check.town("ages 7 to 7;person a age 7 coin 0;");
        x.year();
        ages("one age alone", x, 7);
    }

    /** "all who are alive": the dead are no older. */
    static void theDeadAreNoOlder() {
        YearHands x = Check.town(ONE + "odds 100;");
        CHECK.due("a dies", x.year(), 1);
        CHECK.due("nobody dies", x.year(), 0);
        ages("the dead", x, 31);
        CHECK.due("the YEAR goes up", x.about(5), 2);
    }

    /** "LOANS till that YEAR .. come back": not till another one. */
    static void loansTillThatYearComeBack() {
        YearHands x = Check.town("person a age 10 coin 0;person b age 40 coin 0;friend b to a price 0;");
        x.lend(1, 0, 5, 2);
        x.lend(1, 0, 6, 1);
        x.lend(1, 0, 7, 3);
        x.year();
        ages("the second is back", x, 23, 29);
        CHECK.due("the first is not OVER", x.loan(0, 4), 0);
        CHECK.due("the second is OVER", x.loan(1, 4), 1);
        x.year();
        ages("the first is back", x, 19, 35);
        x.year();
        ages("the third is back", x, 13, 43);
    }

    /** "LOANS till that YEAR": one that is OVER comes back no more. */
    static void aLoanComesBackOnce() {
        YearHands x = Check.town(RING);
        x.lend(1, 0, 5, 1);
        x.year();
        x.year();
        ages("two YEARS", x, 12, 40, 22);
        CHECK.due("DEFAULTS", x.about(9), 0);
    }

    /** "the years go from who has them to who lent them": though they are no FRIENDS so, and of any price. */
    static void theYearsGoFromWhoHasToWhoLent() {
        YearHands x = Check.town("person a age 50 coin 0;person b age 20 coin 0;friend a to b price 99;");
        x.lend(0, 1, 9, 1);
        x.year();
        ages("back", x, 51, 21);
        CHECK.due("no coin goes", x.person(0, 1), 0);
    }

    /** "by number": the first comes back, so that the second one can't. */
    static void loansComeBackByNumber() {
        // c is 35 when a YEAR has gone by: 4 or 5 may come back up to MOST, not both.
        String town = "ages 10 to 40;person a age 20 coin 0;person b age 20 coin 0;person c age 38 coin 0;person d age 20 coin 0;"
            + "friend c to a price 0;friend c to b price 0;friend d to c price 0;";
        YearHands x = Check.town(town);
        x.lend(2, 0, 4, 1);
        x.lend(2, 1, 5, 1);
        x.give(3, 2, 5);
        x.year();
        ages("the first is of a", x, 21, 26, 39, 16);
        CHECK.due("one DEFAULT", x.about(9), 1);
        x = Check.town(town);
        x.lend(2, 1, 5, 1);
        x.lend(2, 0, 4, 1);
        x.give(3, 2, 5);
        x.year();
        ages("the first is of b", x, 25, 21, 40, 16);
        CHECK.due("one DEFAULT", x.about(9), 1);
    }

    /** "if one of both is dead they stay": who lent. */
    static void ifWhoLentIsDeadTheYearsStay() {
        YearHands x = Check.town(RING + "odds 100*(age=35);");
        x.lend(1, 0, 5, 2);
        CHECK.due("b dies", x.year(), 1);
        x.year();
        ages("they stay", x, 17, 35, 22);
        CHECK.due("no DEFAULT", x.about(9), 0);
    }

    /** "if one of both is dead they stay": who has. */
    static void ifWhoHasIsDeadTheYearsStay() {
        YearHands x = Check.town(RING + "odds 100*(age=16);");
        x.lend(1, 0, 5, 2);
        CHECK.due("a dies", x.year(), 1);
        x.year();
        ages("they stay", x, 16, 36, 22);
        CHECK.due("no DEFAULT", x.about(9), 0);
    }

    /** "if one of both is dead they stay": both are, and though it could not come back. */
    static void ifBothAreDeadTheYearsStay() {
        YearHands x = Check.town(RING + "odds 100*(age=16 or age=35);");
        x.lend(1, 0, 5, 2);
        CHECK.due("both die", x.year(), 2);
        x.year();
        ages("they stay", x, 16, 35, 22);
        CHECK.due("no DEFAULT", x.about(9), 0);
    }

    /** "but if one of both is dead": then it is no DEFAULT, though an age would be above MOST. */
    static void aLoanOfTheDeadIsNoDefault() {
        YearHands x = Check.town(RING + "odds 100*(age=16);");
        x.lend(1, 0, 5, 2);
        x.give(2, 1, 6);
        CHECK.due("a dies", x.year(), 1);
        CHECK.due("b is at MOST", x.person(1, 0), 40);
        x.year();
        CHECK.due("no DEFAULT", x.about(9), 0);
        CHECK.due("it is OVER", x.loan(0, 4), 1);
    }

    /** "if an age were below LEAST": LEAST just so comes back. */
    static void aLoanThatBringsToLeastComesBack() {
        YearHands x = Check.town(RING);
        x.lend(1, 0, 5, 1);
        x.give(0, 2, 1);
        x.year();
        ages("LEAST", x, 10, 40, 22);
        CHECK.due("no DEFAULT", x.about(9), 0);
    }

    /** "if an age were below LEAST .. they stay, too, and it is a DEFAULT" */
    static void aLoanThatWouldBringBelowLeastIsADefault() {
        YearHands x = Check.town(RING);
        x.lend(1, 0, 5, 1);
        x.give(0, 2, 2);
        x.year();
        ages("they stay", x, 14, 35, 23);
        CHECK.due("a DEFAULT", x.about(9), 1);
        CHECK.due("it is OVER", x.loan(0, 4), 1);
    }

    /** "if an age were .. above MOST then": MOST just so comes back. */
    static void aLoanThatBringsToMostComesBack() {
        YearHands x = Check.town(RING);
        x.lend(1, 0, 5, 1);
        x.year();
        ages("MOST", x, 11, 40, 21);
        CHECK.due("no DEFAULT", x.about(9), 0);
    }

    /** "if an age were .. above MOST then, they stay, too, and it is a DEFAULT" */
    static void aLoanThatWouldBringAboveMostIsADefault() {
        YearHands x = Check.town(RING);
        x.lend(1, 0, 5, 1);
        x.give(2, 1, 1);
        x.year();
        ages("they stay", x, 16, 36, 20);
        CHECK.due("a DEFAULT", x.about(9), 1);
        CHECK.due("it is OVER", x.loan(0, 4), 1);
    }

    /** "then": ages are those of the new YEAR, in which all are one year older. */
    static void agesThenAreThoseOfTheNewYear() {
        // Before the YEAR goes by b could have its five years back, a could not give them.
        YearHands x = Check.town(RING);
        x.lend(1, 0, 5, 1);
        x.give(0, 2, 1);
        CHECK.due("a could not give them now", x.person(0, 0), 14);
        x.year();
        CHECK.due("they came back", x.person(0, 0), 10);
        x = Check.town("ages 10 to 40;person a age 10 coin 0;person b age 40 coin 0;friend b to a price 0;");
        x.lend(1, 0, 5, 1);
        CHECK.due("b could take them now", x.person(1, 0), 35);
        x.year();
        ages("they stay", x, 16, 36);
        CHECK.due("a DEFAULT", x.about(9), 1);
    }

    /** "it is a DEFAULT": each of them is one, in all YEARS. */
    static void eachDefaultCounts() {
        YearHands x = Check.town("ages 10 to 40;person a age 10 coin 0;person b age 40 coin 0;person c age 40 coin 0;"
            + "person d age 40 coin 0;friend b to a price 0;friend c to a price 0;friend d to a price 0;");
        x.lend(1, 0, 5, 1);
        x.lend(2, 0, 6, 1);
        x.lend(3, 0, 3, 2);
        CHECK.due("none at first", x.about(9), 0);
        x.year();
        CHECK.due("two", x.about(9), 2);
        x.year();
        CHECK.due("and one", x.about(9), 3);
    }

    /** "(all these are OVER)": those that came back, that stay by a death, that are DEFAULTS. */
    static void allTheseAreOver() {
        YearHands x = Check.town("ages 10 to 40;person a age 20 coin 0;person b age 30 coin 0;person c age 40 coin 0;"
            + "friend b to a price 0;friend c to a price 0;friend a to b price 0;odds 100*(age=23);");
        x.lend(1, 0, 1, 1);
        x.lend(2, 0, 1, 1);
        x.lend(0, 1, 1, 1);
        CHECK.due("nobody dies", x.year(), 0);
        CHECK.due("one DEFAULT", x.about(9), 1);
        for (int loan = 0; loan < 3; loan++) {
            CHECK.due("loan(" + loan + ", 4)", x.loan(loan, 4), 1);
        }
        CHECK.due("net(0)", x.net(0), 0);
    }

    /** "the SEED .. becomes its 137-fold and 71 more, modulo 1,000" */
    static void theSeedIsModulo1000() {
        int[][] seeds = {{0, 71}, {6, 893}, {7, 30}, {817, 0}, {744, 999}, {999, 934}};
        for (int[] seed : seeds) {
            YearHands x = Check.town(ONE + "draw " + seed[0] + ";");
            x.year();
            CHECK.due("SEED behind " + seed[0], x.about(6), seed[1]);
        }
    }

    /** "(draw, at first)" */
    static void theSeedIsDrawAtFirst() {
        CHECK.due("told", Check.town("draw 817;").about(6), 817);
        CHECK.due("not told", Check.town(ONE).about(6), 0);
    }

    /** "by number each who is alive": one SEED for each. */
    static void theSeedGoesOnByEachWhoIsAlive() {
        YearHands x = Check.town("person a age 3 coin 0;person b age 3 coin 0;person c age 3 coin 0;draw 7;");
        x.year();
        CHECK.due("three SEEDS behind 7", x.about(6), 868);
        x = new YearHands();
        Check.tell(x, "draw 7;");
        x.year();
        CHECK.due("nobody", x.about(6), 7);
    }

    /** "each who is alive": not the dead, but he who dies did draw. */
    static void theDeadDrawNoMore() {
        // SEEDS behind 7: 30, 181, 868, 987.
        YearHands x = Check.town("person a age 3 coin 0;person b age 5 coin 0;draw 7;odds 100*(age=4);");
        CHECK.due("a dies", x.year(), 1);
        CHECK.due("two SEEDS", x.about(6), 181);
        x.year();
        CHECK.due("one more", x.about(6), 868);
    }

    /** "by number": the first draws first. */
    static void deathsAreDrawnByNumber() {
        // SEEDS behind 7: 30, 181; tenths 3, 18.
        YearHands x = Check.town("person a age 3 coin 0;person b age 3 coin 0;draw 7;odds 10;");
        CHECK.due("one dies", x.year(), 1);
        CHECK.due("the first", x.about(7), 2);
    }

    /** "he dies, if a tenth of it, cut, is below his ODDS": as much is not below. */
    static void heDiesIfATenthIsBelowHisOdds() {
        // 927 becomes 70, 584 becomes 79, 657 becomes 80.
        CHECK.due("7 of 70 below 7", dead(927, 7), 0);
        CHECK.due("7 of 70 below 8", dead(927, 8), 1);
        CHECK.due("7 of 79 below 7", dead(584, 7), 0);
        CHECK.due("7 of 79, cut, below 8", dead(584, 8), 1);
        CHECK.due("8 of 80 below 8", dead(657, 8), 0);
    }

    /** "below his ODDS": by 0 nobody dies. */
    static void byOddsOf0NobodyDies() {
        CHECK.due("0 of 0 below 0", dead(817, 0), 0);
        CHECK.due("0 of 0 below 1", dead(817, 1), 1);
        CHECK.due("0 of 9, cut, below 1", dead(474, 1), 1);
        CHECK.due("1 of 10 below 1", dead(547, 1), 0);
    }

    /** "below his ODDS": by 100 all die. */
    static void byOddsOf100AllDie() {
        CHECK.due("99 of 999 below 100", dead(744, 100), 1);
        CHECK.due("99 of 999 below 99", dead(744, 99), 0);
        CHECK.due("99 of 990 below 100", dead(87, 100), 1);
        CHECK.due("eight die", Check.town("person a age 1 coin 0;person b age 1 coin 0;person c age 1 coin 0;"
            + "person d age 1 coin 0;person e age 1 coin 0;person f age 1 coin 0;person g age 1 coin 0;"
            + "person h age 1 coin 0;odds 9999;").year(), 8);
    }

    /** "his ODDS": by the age that he has then, behind the LOANS, and by the new YEAR. */
    static void hisOddsAreByAgeAndYearThen() {
        CHECK.due("one year older", Check.town(ONE + "odds 100*(age=31);").year(), 1);
        CHECK.due("the new YEAR", Check.town(ONE + "odds 100*(year=1);").year(), 1);
        String lent = "person a age 10 coin 0;person b age 30 coin 0;friend b to a price 0;";
        YearHands x = Check.town(lent + "odds 100*(age=31);");
        x.lend(1, 0, 5, 1);
        CHECK.due("behind the LOANS", x.year(), 1);
        CHECK.due("b", x.about(7), 1);
        x = Check.town(lent + "odds 100*(age=26 or age=16);");
        x.lend(1, 0, 5, 1);
        CHECK.due("not ahead of them", x.year(), 0);
    }

    /** "how many die" */
    static void yearAnswersHowManyDie() {
        YearHands x = Check.town("person a age 1 coin 0;person b age 2 coin 0;person c age 3 coin 0;odds 100*(age>2 and age<5);");
        CHECK.due("two, at 3 and 4", x.year(), 2);
        CHECK.due("one, at 3", x.year(), 1);
        CHECK.due("nobody", x.year(), 0);
    }

    /** "(An ACT.)": also a YEAR in which nobody is alive. */
    static void aYearIsAnAct() {
        YearHands x = Check.town(ONE + "odds 100;draw 5;");
        x.year();
        x.year();
        CHECK.due("ACTS", x.about(10), 2);
        x.undo();
        x.undo();
        CHECK.due("alive again", x.person(0, 2), 1);
        CHECK.due("younger again", x.person(0, 0), 30);
        CHECK.due("the YEAR", x.about(5), 0);
        CHECK.due("SEED", x.about(6), 5);
    }

    // ---- UNDO, promise 13

    /** "UNDO: .. false if there is none": nothing is done then. */
    static void undoOfNoneIsFalse() {
        YearHands x = Check.town(ONE);
        CHECK.due("of none", x.undo(), false);
        x.year();
        CHECK.due("of one", x.undo(), true);
        CHECK.due("of no more", x.undo(), false);
        CHECK.due("undone ACTS", x.about(11), 1);
        CHECK.due("the YEAR", x.about(5), 0);
    }

    /** "UNDO takes back the latest ACT that was not": one behind the other, the latest first. */
    static void undoTakesBackTheLatestActThatWasNot() {
        YearHands x = Check.town(RING);
        x.give(1, 0, 1);
        x.lend(1, 0, 2, 5);
        x.year();
        x.undo();
        ages("the YEAR", x, 13, 36, 20);
        x.undo();
        ages("the LOAN", x, 11, 38, 20);
        CHECK.due("LOANS", x.about(8), 0);
        x.undo();
        ages("the GIFT", x, 10, 39, 20);
    }

    /** "UNDO takes back": LOANS that came back, DEFAULTS, deaths, the SEED. */
    static void undoTakesBackAllOfAYear() {
        YearHands x = Check.town(RING + "odds 100*(age=21);draw 7;");
        x.lend(1, 0, 5, 1);
        x.lend(1, 0, 6, 1);
        x.give(0, 2, 11);
        x.give(2, 1, 11);
        int[] before = new int[14];
        for (int what = 5; what < 10; what++) {
            before[what] = x.about(what);
        }
        x.year();
        CHECK.due("a DEFAULT", x.about(9) > 0, true);
        CHECK.due("one is dead", x.about(7), 3);
        x.undo();
        for (int what = 5; what < 10; what++) {
            CHECK.due("about(" + what + ")", x.about(what), before[what]);
        }
        CHECK.due("not OVER", x.loan(0, 4) + x.loan(1, 4), 0);
    }

    /** "40 at most are kept": forty can be taken back. */
    static void fortyActsAreKept() {
        YearHands x = Check.town(ONE);
        for (int i = 0; i < 40; i++) {
            x.year();
        }
        CHECK.due("ACTS", x.about(10), 40);
        for (int i = 0; i < 40; i++) {
            CHECK.due("undo " + i, x.undo(), true);
        }
        CHECK.due("one more", x.undo(), false);
        CHECK.due("the YEAR", x.about(5), 0);
        CHECK.due("undone ACTS", x.about(11), 40);
    }

    /** "40 at most are kept, the oldest go" */
    static void theOldestOf41ActsGoes() {
        YearHands x = Check.town(ONE);
        for (int i = 0; i < 41; i++) {
            x.year();
        }
        CHECK.due("ACTS", x.about(10), 40);
        for (int i = 0; i < 40; i++) {
            CHECK.due("undo " + i, x.undo(), true);
            CHECK.due("the YEAR", x.about(5), 40 - i);
        }
        CHECK.due("the oldest is gone", x.undo(), false);
        CHECK.due("the YEAR", x.about(5), 1);
        for (int i = 0; i < 40; i++) {
            CHECK.due("redo " + i, x.redo(), true);
        }
        CHECK.due("the YEAR", x.about(5), 41);
    }

    /** "40 at most are kept, the oldest go": however many there were. */
    static void theOldestOfManyActsGo() {
        for (int acts : new int[] {79, 80, 81, 82, 83, 121, 200, 400}) {
            YearHands x = Check.town(ONE);
            for (int i = 0; i < acts; i++) {
                x.year();
            }
            for (int i = 1; i <= 40; i++) {
                x.undo();
                CHECK.due("the YEAR behind " + acts + " ACTS, undo " + i, x.about(5), acts - i);
            }
            CHECK.due("no more", x.undo(), false);
        }
    }

    /** "40 at most are kept": those that were taken back are among them no more when another ACT comes. */
    static void whatWasTakenBackIsNotAmongForty() {
        YearHands x = Check.town(ONE);
        for (int i = 0; i < 45; i++) {
            x.year();
        }
        for (int i = 0; i < 10; i++) {
            x.undo();
        }
        x.year();
        CHECK.due("ACTS", x.about(10), 31);
        for (int i = 0; i < 31; i++) {
            CHECK.due("undo " + i, x.undo(), true);
        }
        CHECK.due("no more", x.undo(), false);
        CHECK.due("the YEAR", x.about(5), 5);
    }

    /** "UNDO takes back the latest ACT": the one before it stays as it was done, years and coins. */
    static void undoLeavesTheActBefore() {
        YearHands x = Check.town("person a age 30 coin 5;person b age 20 coin 50;friend a to b price 7;");
        x.give(0, 1, 2);
        x.lend(0, 1, 3, 5);
        x.give(0, 1, 1);
        x.year();
        x.undo();
        CHECK.due("a's coin", x.person(0, 1), 26);
        CHECK.due("b's coin", x.person(1, 1), 29);
        x.undo();
        CHECK.due("a's coin", x.person(0, 1), 19);
        CHECK.due("b's coin", x.person(1, 1), 36);
        ages("the LOAN stays", x, 25, 25);
        CHECK.due("LOANS", x.about(8), 1);
        x.undo();
        CHECK.due("a's coin", x.person(0, 1), 19);
        CHECK.due("b's coin", x.person(1, 1), 36);
        ages("the GIFT stays", x, 28, 22);
    }

    /** "UNDO takes back": a LOAN that was taken back does not come back. */
    static void aLoanTakenBackDoesNotComeBack() {
        YearHands x = Check.town(RING);
        x.lend(1, 0, 5, 1);
        x.undo();
        x.year();
        ages("a YEAR older alone", x, 11, 40, 21);
        CHECK.due("LOANS", x.about(8), 0);
        CHECK.due("DEFAULTS", x.about(9), 0);
    }

    // ---- REDO, promise 14

    /** "REDO: .. false if there is none": nothing is done then. */
    static void redoOfNoneIsFalse() {
        YearHands x = Check.town(ONE);
        CHECK.due("of none", x.redo(), false);
        x.year();
        CHECK.due("none was taken back", x.redo(), false);
        x.undo();
        CHECK.due("of one", x.redo(), true);
        CHECK.due("of no more", x.redo(), false);
        CHECK.due("the YEAR", x.about(5), 1);
        CHECK.due("ACTS", x.about(10), 1);
    }

    /** "REDO does that again which was taken back last": one behind the other. */
    static void redoDoesAgainWhatWasTakenBackLast() {
        YearHands x = Check.town(RING + "odds 100*(age>20);");
        x.give(1, 0, 1);
        x.lend(1, 0, 2, 5);
        x.year();
        for (int i = 0; i < 3; i++) {
            x.undo();
        }
        x.redo();
        ages("the GIFT", x, 11, 38, 20);
        x.redo();
        ages("the LOAN", x, 13, 36, 20);
        CHECK.due("its years", x.loan(0, 2), 2);
        x.redo();
        ages("the YEAR", x, 14, 37, 21);
        CHECK.due("two are dead", x.about(7), 1);
        CHECK.due("undo()", x.undo(), true);
        CHECK.due("all are alive", x.about(7), 7);
    }

    /** "REDO does that again": a GIFT is paid again. */
    static void aGiftDoneAgainIsPaidAgain() {
        YearHands x = Check.town("person a age 30 coin 5;person b age 20 coin 50;friend a to b price 7;");
        x.give(0, 1, 2);
        x.undo();
        CHECK.due("a's coin is back", x.person(0, 1), 5);
        CHECK.due("b's coin is back", x.person(1, 1), 50);
        x.redo();
        CHECK.due("a's coin", x.person(0, 1), 19);
        CHECK.due("b's coin", x.person(1, 1), 36);
        ages("years", x, 28, 22);
    }

    /** "REDO does that again": a YEAR with its deaths, SEED, LOANS, DEFAULTS. */
    static void aYearDoneAgainIsAsItWas() {
        YearHands x = Check.town(RING + "odds 100*(age=21);draw 7;");
        x.lend(1, 0, 5, 1);
        x.lend(1, 0, 6, 1);
        x.give(0, 2, 11);
        x.give(2, 1, 11);
        x.year();
        int[] behind = new int[10];
        for (int what = 5; what < 10; what++) {
            behind[what] = x.about(what);
        }
        int[] old = {x.person(0, 0), x.person(1, 0), x.person(2, 0)};
        x.undo();
        x.redo();
        for (int what = 5; what < 10; what++) {
            CHECK.due("about(" + what + ")", x.about(what), behind[what]);
        }
        ages("as it was", x, old);
        CHECK.due("both are OVER", x.loan(0, 4) + x.loan(1, 4), 2);
    }

    /** "(till another ACT)": a GIFT, a LOAN, a YEAR. */
    static void redoTillAnotherAct() {
        for (int act = 0; act < 3; act++) {
            YearHands x = Check.town(RING);
            x.year();
            x.year();
            x.undo();
            x.undo();
            CHECK.due("to be redone", x.about(11), 2);
            if (act == 0) {
                x.give(1, 0, 1);
            } else if (act == 1) {
                x.lend(1, 0, 1, 5);
            } else {
                x.year();
            }
            CHECK.due("none to be redone", x.about(11), 0);
            CHECK.due("redo() behind another ACT", x.redo(), false);
            CHECK.due("ACTS", x.about(10), 1);
        }
    }

    /** "(till another ACT)": TARGETS, FACES, the TIME, images, questions, what can't be are none. */
    static void redoBehindWhatIsNoAct() {
        YearHands x = Check.town(RING);
        x.year();
        x.undo();
        x.target(0, 20);
        x.hush();
        x.face(0, 20);
        x.untell(0);
        x.later(5);
        x.image(0);
        x.safest();
        x.give(0, 0, 1);
        x.lend(0, 0, 1, 1);
        CHECK.due("redo()", x.redo(), true);
    }

    /** "UNDO takes back the latest ACT": TARGETS, FACES, the TIME, what lies there stay. */
    static void undoOfActsAlone() {
        YearHands x = Check.town(RING);
        x.year();
        x.target(0, 20);
        x.face(0, 20);
        x.later(5);
        x.safest();
        CHECK.due("undo()", x.undo(), true);
        CHECK.due("TARGETS", x.about(12), 1);
        CHECK.due("FACES", x.about(13), 1);
        CHECK.due("TIME", x.about(14), 5);
        CHECK.due("what lies there", x.about(17), 3);
    }

    // ---- BOXES, promises 39 and 40

    /** "a BOX 0 .. 2 .. NONE if there is none such" */
    static void imagesAreInABox0To2() {
        YearHands x = Check.town(ONE);
        for (int box = 0; box < 3; box++) {
            CHECK.due("image(" + box + ")", x.image(box), 0);
        }
        for (int box : FAR_OFF) {
            CHECK.due("image(" + box + ")", x.image(box), -1);
        }
    }

    /** "kept in a BOX ..: the YEAR" */
    static void imageAnswersTheYear() {
        YearHands x = Check.town(ONE);
        x.year();
        x.year();
        CHECK.due("image(1)", x.image(1), 2);
        CHECK.due("it is no ACT", x.about(10), 2);
    }

    /** "Ages, coins, who is alive, LOANS, DEFAULTS, the YEAR, the SEED are kept" */
    static void allThatIsKept() {
        YearHands x = Check.town("ages 10 to 40;person a age 10 coin 9;person b age 40 coin 9;person c age 20 coin 9;"
            + "friend b to a price 0;friend a to c price 2;odds 100*(age=21)+100*(year=2);draw 7;");
        x.lend(1, 0, 5, 1);
        x.lend(1, 0, 6, 3);
        x.give(0, 2, 1);
        x.give(0, 2, 3);
        x.undo();
        CHECK.due("nobody dies", x.year(), 0);
        int[] state = new int[10];
        for (int what = 5; what < 10; what++) {
            state[what] = x.about(what);
        }
        int[] ages = {x.person(0, 0), x.person(1, 0), x.person(2, 0)};
        int coin = x.person(0, 1);
        CHECK.due("image(2)", x.image(2), 1);
        CHECK.due("all die", x.year(), 3);
        CHECK.due("back(2)", x.back(2), 1);
        for (int what = 5; what < 10; what++) {
            CHECK.due("about(" + what + ")", x.about(what), state[what]);
        }
        ages("kept", x, ages);
        CHECK.due("coin", x.person(0, 1), coin);
        CHECK.due("the first LOAN is OVER", x.loan(0, 4), 1);
        CHECK.due("the second is not", x.loan(1, 4), 0);
        CHECK.due("its years", x.loan(1, 2), 6);
    }

    /** "LOANS .. are kept": of each who lent, who has, years, till, in place of another one of its number. */
    static void loansAreKept() {
        YearHands x = Check.town(RING);
        x.lend(1, 0, 5, 9);
        x.image(0);
        x.undo();
        x.lend(2, 1, 1, 2);
        x.back(0);
        int[] due = {1, 0, 5, 9, 0};
        for (int what = 0; what < 5; what++) {
            CHECK.due("loan(0, " + what + ")", x.loan(0, what), due[what]);
        }
        CHECK.due("net(1)", x.net(1), 5);
    }

    /** "kept": what is done later does not change what is in the BOX, also when it was gone back to. */
    static void whatIsKeptStaysAsItWas() {
        YearHands x = Check.town(RING);
        x.image(0);
        x.lend(1, 0, 5, 1);
        x.back(0);
        x.give(1, 0, 3);
        x.year();
        CHECK.due("back(0)", x.back(0), 0);
        ages("as kept", x, 10, 39, 20);
        CHECK.due("LOANS", x.about(8), 0);
        CHECK.due("the YEAR", x.about(5), 0);
    }

    /** "kept in a BOX": in place of what was kept there, and in that one alone. */
    static void anotherImageInTheSameBox() {
        YearHands x = Check.town(RING);
        x.image(0);
        x.image(1);
        x.year();
        x.image(1);
        CHECK.due("back(1)", x.back(1), 1);
        CHECK.due("back(0)", x.back(0), 0);
        CHECK.due("back(1)", x.back(1), 1);
    }

    /** "NONE, doing nothing, if nothing was": a BOX that is empty, one that there is not. */
    static void backToNothingIsNone() {
        YearHands x = Check.town(RING);
        x.year();
        for (int box = 0; box < 3; box++) {
            CHECK.due("back(" + box + ")", x.back(box), -1);
        }
        x.image(1);
        x.year();
        CHECK.due("back(0)", x.back(0), -1);
        CHECK.due("back(2)", x.back(2), -1);
        for (int box : FAR_OFF) {
            CHECK.due("back(" + box + ")", x.back(box), -1);
        }
        CHECK.due("the YEAR", x.about(5), 2);
        CHECK.due("ACTS", x.about(10), 2);
        CHECK.due("back(1)", x.back(1), 1);
    }

    /** "(no ACTS are kept then)" */
    static void noActsAreKeptBehindBack() {
        YearHands x = Check.town(RING);
        x.image(0);
        x.year();
        x.year();
        x.undo();
        x.back(0);
        CHECK.due("ACTS", x.about(10), 0);
        CHECK.due("undone ACTS", x.about(11), 0);
        CHECK.due("undo()", x.undo(), false);
        CHECK.due("redo()", x.redo(), false);
        x.year();
        CHECK.due("undo() of what came then", x.undo(), true);
        CHECK.due("undo() of no more", x.undo(), false);
        CHECK.due("the YEAR", x.about(5), 0);
    }

    /** "Ages, .. are kept": TARGETS, FACES, the TIME, what lies there are not, and stay. */
    static void whatIsNotKeptStays() {
        YearHands x = Check.town(RING);
        x.image(0);
        x.target(0, 20);
        x.face(0, 20);
        x.later(5);
        x.safest();
        x.back(0);
        CHECK.due("TARGETS", x.about(12), 1);
        CHECK.due("FACES", x.about(13), 1);
        CHECK.due("TIME", x.about(14), 5);
        CHECK.due("what lies there", x.about(17), 3);
    }

    /** "LOANS .. are kept": one lent behind the image is none, its number is free. */
    static void loansBehindTheImageAreNone() {
        YearHands x = Check.town(RING);
        x.image(0);
        x.lend(1, 0, 5, 1);
        x.year();
        CHECK.due("it is OVER", x.loan(0, 4), 1);
        x.back(0);
        CHECK.due("loan(0, 0)", x.loan(0, 0), -1);
        CHECK.due("another one", x.lend(1, 0, 2, 3), 0);
        CHECK.due("it is not OVER", x.loan(0, 4), 0);
    }
}
