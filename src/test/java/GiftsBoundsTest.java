/** GIFTS and LOANS, promises 10, 11 and 15: each sentence that names a boundary case has one test, named after it. */
public final class GiftsBoundsTest {
    private static final Check CHECK = new Check("GiftsBoundsTest");
    private static final int[] FAR_OFF = {-1, Integer.MIN_VALUE, Integer.MAX_VALUE};
    /** Years go from a to b at 2, from b to c for nothing. */
    private static final String TOWN = "ages 10 to 60;person a age 30 coin 5;person b age 20 coin 10;person c age 40 coin 100;"
        + "friend a to b price 2;friend b to c price 0;";
    /** So many that 99 years can go from a to b. */
    private static final String WIDE = "ages 0 to 150;person a age 150 coin 0;person b age 0 coin 0;friend a to b price 0;";

    public static void main(String[] args) {
        CHECK.runAll(GiftsBoundsTest.class);
    }

    private static void nothingDone(String what, YearHands x, int... agesAndCoins) {
        for (int i = 0; i < agesAndCoins.length; i++) {
            CHECK.due(what + ": person(" + i / 2 + ", " + i % 2 + ")", x.person(i / 2, i % 2), agesAndCoins[i]);
        }
        CHECK.due(what + ": ACTS", x.about(10), 0);
        CHECK.due(what + ": LOANS", x.about(8), 0);
    }

    // ---- a GIFT, promise 10

    /** "a GIFT of n years (1 .. 99)": one. */
    static void aGiftIsOfOneYearAtLeast() {
        YearHands x = Check.town(WIDE);
        CHECK.due("0 years", x.give(0, 1, 0), -1);
        CHECK.due("-1 years", x.give(0, 1, -1), -1);
        CHECK.due("the least int", x.give(0, 1, Integer.MIN_VALUE), -1);
        nothingDone("fewer than 1", x, 150, 0, 0, 0);
        CHECK.due("1 year", x.give(0, 1, 1), 0);
        CHECK.due("who takes", x.person(1, 0), 1);
    }

    /** "a GIFT of n years (1 .. 99)": ninety-nine. */
    static void aGiftIsOf99YearsAtMost() {
        YearHands x = Check.town(WIDE);
        CHECK.due("100 years", x.give(0, 1, 100), -1);
        CHECK.due("the most int", x.give(0, 1, Integer.MAX_VALUE), -1);
        nothingDone("more than 99", x, 150, 0, 0, 0);
        CHECK.due("99 years", x.give(0, 1, 99), 0);
        CHECK.due("who takes", x.person(1, 0), 99);
    }

    /** "from one to another one": not to oneself. */
    static void aGiftIsToAnotherOne() {
        YearHands x = Check.town(TOWN);
        CHECK.due("give(0, 0, 1)", x.give(0, 0, 1), -1);
        CHECK.due("give(2, 2, 1)", x.give(2, 2, 1), -1);
        nothingDone("to oneself", x, 30, 5, 20, 10, 40, 100);
    }

    /** "who are FRIENDS so": in this order. */
    static void aGiftIsByFriendsSo() {
        YearHands x = Check.town(TOWN);
        CHECK.due("the other way", x.give(1, 0, 1), -1);
        CHECK.due("by two FRIENDS", x.give(0, 2, 1), -1);
        nothingDone("no FRIENDS so", x, 30, 5, 20, 10, 40, 100);
        CHECK.due("so", x.give(0, 1, 1), 2);
    }

    /** "NONE .. if it can't be": nobody gives, nobody takes. */
    static void aGiftIsOfSomebodyToSomebody() {
        YearHands x = Check.town(TOWN);
        for (int person : FAR_OFF) {
            CHECK.due("from " + person, x.give(person, 1, 1), -1);
            CHECK.due("to " + person, x.give(0, person, 1), -1);
        }
        CHECK.due("from 3", x.give(3, 1, 1), -1);
        CHECK.due("to 3", x.give(0, 3, 1), -1);
        CHECK.due("from 8", x.give(8, 1, 1), -1);
        nothingDone("nobody", x, 30, 5, 20, 10, 40, 100);
    }

    /** "both alive": who gives. */
    static void whoGivesIsAlive() {
        YearHands x = Check.town(TOWN + "odds 100*(age=31);");
        CHECK.due("a dies", x.year(), 1);
        CHECK.due("from the dead", x.give(0, 1, 1), -1);
        CHECK.due("age of the dead", x.person(0, 0), 31);
        CHECK.due("of the living", x.give(1, 2, 1), 0);
    }

    /** "both alive": who takes. */
    static void whoTakesIsAlive() {
        YearHands x = Check.town(TOWN + "odds 100*(age=21);");
        CHECK.due("b dies", x.year(), 1);
        CHECK.due("to the dead", x.give(0, 1, 1), -1);
        CHECK.due("age of the dead", x.person(1, 0), 21);
        CHECK.due("coin of the dead", x.person(1, 1), 10);
    }

    /** "the first one is n younger, the second one n older" */
    static void theFirstIsYoungerTheSecondOlder() {
        YearHands x = Check.town(TOWN);
        x.give(0, 1, 3);
        CHECK.due("the first", x.person(0, 0), 27);
        CHECK.due("the second", x.person(1, 0), 23);
        CHECK.due("another one", x.person(2, 0), 40);
    }

    /** "pays n times the price to the first" */
    static void theSecondPaysNTimesThePrice() {
        YearHands x = Check.town(TOWN);
        CHECK.due("what it costs", x.give(0, 1, 3), 6);
        CHECK.due("the first", x.person(0, 1), 11);
        CHECK.due("the second", x.person(1, 1), 4);
        CHECK.due("another one", x.person(2, 1), 100);
    }

    /** "coin 0 .. 999" is what can be told: by GIFTS one may have more. */
    static void coinsMayBeMoreThan999() {
        YearHands x = Check.town("person a age 30 coin 999;person b age 20 coin 999;friend a to b price 99;");
        CHECK.due("ten years", x.give(0, 1, 10), 990);
        CHECK.due("who gave", x.person(0, 1), 1989);
        CHECK.due("who took", x.person(1, 1), 9);
    }

    /** "price 0": it costs nothing, and is a GIFT still. */
    static void aGiftForNothing() {
        YearHands x = Check.town("person a age 30 coin 0;person b age 20 coin 0;friend a to b price 0;");
        CHECK.due("for nothing", x.give(0, 1, 30), 0);
        CHECK.due("who takes", x.person(1, 0), 50);
    }

    /** "it can't be, if an age were below LEAST": LEAST just so can be. */
    static void whoGivesIsNotBelowLeast() {
        YearHands x = Check.town("ages 10 to 60;person a age 30 coin 0;person b age 20 coin 0;friend a to b price 0;");
        CHECK.due("below LEAST", x.give(0, 1, 21), -1);
        nothingDone("below LEAST", x, 30, 0, 20, 0);
        CHECK.due("LEAST", x.give(0, 1, 20), 0);
        CHECK.due("who gives", x.person(0, 0), 10);
        CHECK.due("below LEAST by one", x.give(0, 1, 1), -1);
    }

    /** "it can't be, if an age were .. above MOST then": MOST just so can be. */
    static void whoTakesIsNotAboveMost() {
        YearHands x = Check.town("ages 10 to 60;person a age 50 coin 0;person b age 40 coin 0;friend a to b price 0;");
        CHECK.due("above MOST", x.give(0, 1, 21), -1);
        nothingDone("above MOST", x, 50, 0, 40, 0);
        CHECK.due("MOST", x.give(0, 1, 20), 0);
        CHECK.due("who takes", x.person(1, 0), 60);
        CHECK.due("above MOST by one", x.give(0, 1, 1), -1);
    }

    /** "or the coin is not enough": all his coins are. */
    static void whoTakesHasCoinEnough() {
        YearHands x = Check.town("person a age 30 coin 500;person b age 20 coin 13;friend a to b price 2;");
        CHECK.due("14 of 13", x.give(0, 1, 7), -1);
        nothingDone("not enough", x, 30, 500, 20, 13);
        CHECK.due("12 of 13", x.give(0, 1, 6), 12);
        CHECK.due("2 of 1", x.give(0, 1, 1), -1);
        x = Check.town("person a age 30 coin 500;person b age 20 coin 12;friend a to b price 2;");
        CHECK.due("12 of 12", x.give(0, 1, 6), 12);
        CHECK.due("no coin is left", x.person(1, 1), 0);
    }

    /** "(An ACT.)" */
    static void aGiftIsAnAct() {
        YearHands x = Check.town(TOWN);
        x.give(0, 1, 3);
        CHECK.due("ACTS", x.about(10), 1);
        CHECK.due("undo()", x.undo(), true);
        nothingDone("undone", x, 30, 5, 20, 10, 40, 100);
    }

    /** "NONE, doing nothing": no ACT, and what was taken back can be done again. */
    static void aGiftThatCantBeIsNoAct() {
        YearHands x = Check.town(TOWN);
        x.give(0, 1, 3);
        x.give(0, 1, 1);
        x.undo();
        CHECK.due("give(0, 1, 9)", x.give(0, 1, 9), -1);
        CHECK.due("ACTS", x.about(10), 1);
        CHECK.due("undone ACTS", x.about(11), 1);
        CHECK.due("redo()", x.redo(), true);
        CHECK.due("age", x.person(0, 0), 26);
    }

    // ---- a LOAN, promise 11

    /** "A LOAN likewise": years 1 .. 99. */
    static void aLoanIsOf1To99Years() {
        YearHands x = Check.town(WIDE);
        CHECK.due("0 years", x.lend(0, 1, 0, 5), -1);
        CHECK.due("-1 years", x.lend(0, 1, -1, 5), -1);
        CHECK.due("100 years", x.lend(0, 1, 100, 5), -1);
        CHECK.due("the least int", x.lend(0, 1, Integer.MIN_VALUE, 5), -1);
        CHECK.due("the most int", x.lend(0, 1, Integer.MAX_VALUE, 5), -1);
        nothingDone("no such years", x, 150, 0, 0, 0);
        CHECK.due("99 years", x.lend(0, 1, 99, 5), 0);
        CHECK.due("1 year", x.lend(0, 1, 1, 5), 1);
        CHECK.due("who has", x.person(1, 0), 100);
    }

    /** "A LOAN likewise": another one, FRIENDS so, somebody. */
    static void aLoanIsByFriendsSo() {
        YearHands x = Check.town(TOWN);
        CHECK.due("to oneself", x.lend(0, 0, 1, 5), -1);
        CHECK.due("the other way", x.lend(1, 0, 1, 5), -1);
        CHECK.due("by two FRIENDS", x.lend(0, 2, 1, 5), -1);
        CHECK.due("from 3", x.lend(3, 0, 1, 5), -1);
        CHECK.due("to 3", x.lend(0, 3, 1, 5), -1);
        for (int person : FAR_OFF) {
            CHECK.due("from " + person, x.lend(person, 1, 1, 5), -1);
            CHECK.due("to " + person, x.lend(0, person, 1, 5), -1);
        }
        nothingDone("no FRIENDS so", x, 30, 5, 20, 10, 40, 100);
    }

    /** "A LOAN likewise": both alive. */
    static void aLoanIsOfTheLivingToTheLiving() {
        YearHands x = Check.town(TOWN + "odds 100*(age=21);");
        CHECK.due("b dies", x.year(), 1);
        CHECK.due("to the dead", x.lend(0, 1, 1, 5), -1);
        CHECK.due("from the dead", x.lend(1, 2, 1, 5), -1);
        CHECK.due("LOANS", x.about(8), 0);
    }

    /** "A LOAN likewise": LEAST just so can be, below it can't. */
    static void whoLendsIsNotBelowLeast() {
        YearHands x = Check.town("ages 10 to 60;person a age 30 coin 0;person b age 20 coin 0;friend a to b price 0;");
        CHECK.due("below LEAST", x.lend(0, 1, 21, 5), -1);
        nothingDone("below LEAST", x, 30, 0, 20, 0);
        CHECK.due("LEAST", x.lend(0, 1, 20, 5), 0);
        CHECK.due("who lends", x.person(0, 0), 10);
    }

    /** "A LOAN likewise": MOST just so can be, above it can't. */
    static void whoHasIsNotAboveMost() {
        YearHands x = Check.town("ages 10 to 60;person a age 50 coin 0;person b age 40 coin 0;friend a to b price 0;");
        CHECK.due("above MOST", x.lend(0, 1, 21, 5), -1);
        nothingDone("above MOST", x, 50, 0, 40, 0);
        CHECK.due("MOST", x.lend(0, 1, 20, 5), 0);
        CHECK.due("who has", x.person(1, 0), 60);
    }

    /** "without a price": no coin goes, none is needed. */
    static void aLoanIsWithoutAPrice() {
        YearHands x = Check.town("person a age 30 coin 5;person b age 20 coin 0;friend a to b price 99;");
        CHECK.due("without coin", x.lend(0, 1, 7, 5), 0);
        CHECK.due("who lends", x.person(0, 1), 5);
        CHECK.due("who has", x.person(1, 1), 0);
        CHECK.due("younger", x.person(0, 0), 23);
        CHECK.due("older", x.person(1, 0), 27);
    }

    /** "till a YEAR later than now": not now, nor before. */
    static void aLoanIsTillAYearLaterThanNow() {
        YearHands x = Check.town(TOWN);
        CHECK.due("till now", x.lend(0, 1, 1, 0), -1);
        CHECK.due("till before", x.lend(0, 1, 1, -1), -1);
        CHECK.due("till the least int", x.lend(0, 1, 1, Integer.MIN_VALUE), -1);
        nothingDone("not later", x, 30, 5, 20, 10, 40, 100);
        CHECK.due("till the next", x.lend(0, 1, 1, 1), 0);
    }

    /** "later than now": than the YEAR that it is by then. */
    static void aLoanIsTillAYearLaterThanTheYear() {
        YearHands x = Check.town(TOWN);
        x.year();
        x.year();
        CHECK.due("till the YEAR before", x.lend(0, 1, 1, 1), -1);
        CHECK.due("till now", x.lend(0, 1, 1, 2), -1);
        CHECK.due("till the next", x.lend(0, 1, 1, 3), 0);
    }

    /** "(n 1 .. 99, a YEAR up to 1,000)" */
    static void aLoanIsTillTheYear1000AtMost() {
        YearHands x = Check.town(TOWN);
        CHECK.due("till 1,001", x.lend(0, 1, 1, 1001), -1);
        CHECK.due("till the most int", x.lend(0, 1, 1, Integer.MAX_VALUE), -1);
        nothingDone("too late", x, 30, 5, 20, 10, 40, 100);
        CHECK.due("till 1,000", x.lend(0, 1, 1, 1000), 0);
        CHECK.due("till", x.loan(0, 3), 1000);
    }

    /** "(30 LOANS at most" */
    static void thirtyLoansAtMost() {
        YearHands x = Check.town(WIDE);
        for (int i = 0; i < 30; i++) {
            CHECK.due("LOAN " + i, x.lend(0, 1, 1, 5), i);
        }
        CHECK.due("the thirty-first", x.lend(0, 1, 1, 5), -1);
        CHECK.due("LOANS", x.about(8), 30);
        CHECK.due("ages", x.person(1, 0), 30);
        CHECK.due("ACTS", x.about(10), 30);
    }

    /** "30 .. at most, in all": those that are OVER are LOANS, too. */
    static void loansThatAreOverCountAmongThirty() {
        YearHands x = Check.town(WIDE);
        for (int i = 0; i < 29; i++) {
            x.lend(0, 1, 1, 1);
        }
        x.year();
        CHECK.due("all are OVER", x.loan(28, 4), 1);
        CHECK.due("the thirtieth", x.lend(0, 1, 1, 2), 29);
        x.year();
        CHECK.due("the thirty-first", x.lend(0, 1, 1, 3), -1);
        CHECK.due("the last is OVER", x.loan(29, 4), 1);
    }

    /** "30 .. at most": one that was taken back is none. */
    static void loansTakenBackDoNotCount() {
        YearHands x = Check.town(WIDE);
        for (int i = 0; i < 30; i++) {
            x.lend(0, 1, 1, 5);
        }
        x.undo();
        CHECK.due("LOANS", x.about(8), 29);
        CHECK.due("another thirtieth", x.lend(0, 1, 2, 6), 29);
        CHECK.due("its years", x.loan(29, 2), 2);
        CHECK.due("its till", x.loan(29, 3), 6);
    }

    /** "A LOAN: its number": from 0 on. */
    static void loansAreNumberedFrom0() {
        YearHands x = Check.town(TOWN);
        CHECK.due("the first", x.lend(0, 1, 1, 5), 0);
        CHECK.due("one that can't be", x.lend(0, 1, 1, 0), -1);
        CHECK.due("the second", x.lend(1, 2, 1, 5), 1);
    }

    /** "(An ACT.)" */
    static void aLoanIsAnAct() {
        YearHands x = Check.town(TOWN);
        x.lend(0, 1, 3, 5);
        CHECK.due("ACTS", x.about(10), 1);
        CHECK.due("undo()", x.undo(), true);
        nothingDone("undone", x, 30, 5, 20, 10, 40, 100);
    }

    /** "NONE, doing nothing": no ACT, and what was taken back can be done again. */
    static void aLoanThatCantBeIsNoAct() {
        YearHands x = Check.town(TOWN);
        x.lend(0, 1, 3, 5);
        x.undo();
        CHECK.due("lend(0, 1, 3, 0)", x.lend(0, 1, 3, 0), -1);
        CHECK.due("undone ACTS", x.about(11), 1);
        CHECK.due("redo()", x.redo(), true);
        CHECK.due("LOANS", x.about(8), 1);
    }

    // ---- promise 15

    /** "what 0: who lent, 1: who has, 2: years, 3: till, 4: 1 if it is OVER, else 0" */
    static void ofALoanWhat0To4() {
        YearHands x = Check.town(TOWN);
        x.lend(0, 1, 7, 9);
        x.lend(1, 2, 8, 1);
        int[] first = {0, 1, 7, 9, 0};
        int[] second = {1, 2, 8, 1, 0};
        for (int what = 0; what < 5; what++) {
            CHECK.due("loan(0, " + what + ")", x.loan(0, what), first[what]);
            CHECK.due("loan(1, " + what + ")", x.loan(1, what), second[what]);
        }
    }

    /** "4: 1 if it is OVER": when its YEAR has come, not before. */
    static void aLoanIsOverWhenItsYearHasCome() {
        YearHands x = Check.town(TOWN);
        x.lend(0, 1, 7, 2);
        x.year();
        CHECK.due("a YEAR ahead", x.loan(0, 4), 0);
        x.year();
        CHECK.due("its YEAR", x.loan(0, 4), 1);
        for (int what = 0; what < 4; what++) {
            CHECK.due("it is a LOAN still: what " + what, x.loan(0, what), new int[] {0, 1, 7, 2}[what]);
        }
    }

    /** "NONE if there is none such" */
    static void noSuchLoanIsNone() {
        YearHands x = Check.town(TOWN);
        CHECK.due("without LOANS", x.loan(0, 0), -1);
        x.lend(0, 1, 7, 9);
        for (int what = 0; what < 5; what++) {
            CHECK.due("loan(1, " + what + ")", x.loan(1, what), -1);
            CHECK.due("loan(30, " + what + ")", x.loan(30, what), -1);
            for (int loan : FAR_OFF) {
                CHECK.due("loan(" + loan + ", " + what + ")", x.loan(loan, what), -1);
            }
        }
        x.undo();
        CHECK.due("one that was taken back", x.loan(0, 0), -1);
    }

    /** "NONE .. for another what" */
    static void anotherWhatOfALoanIsNone() {
        YearHands x = Check.town(TOWN);
        x.lend(0, 1, 7, 9);
        CHECK.due("loan(0, 5)", x.loan(0, 5), -1);
        for (int what : FAR_OFF) {
            CHECK.due("loan(0, " + what + ")", x.loan(0, what), -1);
        }
    }
}
