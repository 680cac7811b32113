/** The MARKET, promises 24 to 26: each sentence that names a boundary case has one test, named after it. */
public final class MarketBoundsTest {
    private static final Check CHECK = new Check("MarketBoundsTest");
    private static final int GAP = YearHands.GAP;
    private static final int[] FAR_OFF = {-1, 100, Integer.MIN_VALUE, Integer.MAX_VALUE};
    /** a offers 10; b asks for 20 with 100 coins. */
    private static final String TOWN = "person a age 30 coin 0 need 20;person b age 10 coin 100 need 30;";

    public static void main(String[] args) {
        CHECK.runAll(MarketBoundsTest.class);
    }

    /** One who offers so much, and one who asks for 100 with so many coins. */
    private static String town(int offered, int coin) {
        return "person a age " + offered + " coin 0 need 0;person b age 0 coin " + coin + " need 100;";
    }

    // ---- promise 24

    /** "who is older than his need offers what he is above it" */
    static void whoIsOlderThanHisNeedOffers() {
        CHECK.due("one above", Check.town("person a age 21 coin 99 need 20;").market(0, 0), -1);
        CHECK.due("all above", Check.town("person a age 120 coin 99 need 0;").market(5, 5), -120);
    }

    /** "who is younger asks for what he is below it" */
    static void whoIsYoungerThanHisNeedAsks() {
        CHECK.due("one below", Check.town("person a age 19 coin 99 need 20;").market(1, 0), 1);
        CHECK.due("all below", Check.town("person a age 0 coin 999 need 120;").market(1, 0), 120);
    }

    /** "who is older than his need .. who is younger": who is as old neither offers nor asks. */
    static void whoIsAsOldAsHisNeedDoesNeither() {
        CHECK.due("told", Check.town("person a age 20 coin 99 need 20;").market(1, 0), 0);
        CHECK.due("not told", Check.town("person a age 20 coin 99;").market(0, 0), 0);
    }

    /** "but for no more than his coin pays": just so, one coin less, none. */
    static void nobodyAsksForMoreThanHisCoinPays() {
        String town = "person a age 10 coin %d need 20;";
        CHECK.due("all ten", Check.town(town.replace("%d", "70")).market(7, 0), 10);
        CHECK.due("one coin less", Check.town(town.replace("%d", "69")).market(7, 0), 9);
        CHECK.due("one coin more", Check.town(town.replace("%d", "71")).market(7, 0), 10);
        CHECK.due("one year", Check.town(town.replace("%d", "7")).market(7, 0), 1);
        CHECK.due("not one year", Check.town(town.replace("%d", "6")).market(7, 0), 0);
        CHECK.due("not the one year that he needs", Check.town("person a age 19 coin 6 need 20;").market(7, 0), 0);
        CHECK.due("no coin", Check.town(town.replace("%d", "0")).market(1, 0), 0);
    }

    /** "but for no more": what one offers is no matter of coin. */
    static void whatOneOffersIsNoMatterOfCoin() {
        CHECK.due("without coin", Check.town("person a age 30 coin 0 need 20;").market(99, 99), -10);
    }

    /** "(price and tax a year" */
    static void priceAndTaxArePaidAYear() {
        YearHands x = Check.town("person a age 10 coin 70 need 30;");
        CHECK.due("price 7", x.market(7, 0), 10);
        CHECK.due("tax 7", x.market(0, 7), 10);
        CHECK.due("price 3, tax 4", x.market(3, 4), 10);
        CHECK.due("price 4, tax 4", x.market(4, 4), 8);
    }

    /** "all, if these are 0)" */
    static void allIsAskedForIfTheseAre0() {
        YearHands x = Check.town("person a age 10 coin 0 need 30;");
        CHECK.due("price 0, tax 0", x.market(0, 0), 20);
        CHECK.due("price 1, tax 0", x.market(1, 0), 0);
        CHECK.due("price 0, tax 1", x.market(0, 1), 0);
    }

    /** "what is asked less what is offered" */
    static void whatIsAskedLessWhatIsOffered() {
        YearHands x = Check.town(TOWN);
        CHECK.due("20 less 10", x.market(5, 0), 10);
        CHECK.due("10 less 10", x.market(10, 0), 0);
        CHECK.due("9 less 10", x.market(11, 0), -1);
    }

    /** "MARKET (price, tax 0 .. 99)": both ends. */
    static void marketOfPriceAndTax0To99() {
        YearHands x = Check.town("person a age 0 coin 999 need 120;");
        CHECK.due("market(0, 0)", x.market(0, 0), 120);
        CHECK.due("market(99, 0)", x.market(99, 0), 10);
        CHECK.due("market(0, 99)", x.market(0, 99), 10);
        CHECK.due("market(99, 99)", x.market(99, 99), 5);
    }

    /** "GAP for others." */
    static void marketOfOthersIsGap() {
        YearHands x = Check.town(TOWN);
        for (int other : FAR_OFF) {
            CHECK.due("market(" + other + ", 0)", x.market(other, 0), GAP);
            CHECK.due("market(0, " + other + ")", x.market(0, other), GAP);
        }
        CHECK.due("market(-1, 1)", x.market(-1, 1), GAP);
        CHECK.due("market(1, -1)", x.market(1, -1), GAP);
    }

    /** "PEOPLE that are alive": the dead neither offer nor ask. */
    static void theDeadNeitherOfferNorAsk() {
        YearHands x = Check.town(TOWN + "odds 100*(age=31);");
        CHECK.due("a dies", x.year(), 1);
        CHECK.due("market(5, 0)", x.market(5, 0), 19);
        x = Check.town(TOWN + "odds 100*(age=11);");
        CHECK.due("b dies", x.year(), 1);
        CHECK.due("market(5, 0)", x.market(5, 0), -11);
    }

    /** "By all as it is now": ages and coins behind ACTS. */
    static void theMarketIsByAgesAndCoinsNow() {
        YearHands x = Check.town("person a age 30 coin 0 need 20;person b age 10 coin 100 need 30;friend a to b price 9;");
        x.give(0, 1, 10);
        CHECK.due("a offers none, b asks for 10", x.market(0, 0), 10);
        CHECK.due("b has 10 coins", x.market(5, 0), 2);
        CHECK.due("asked less offered", x.rests(0, 1), 0);
        CHECK.due("none at 11", x.rests(0, 0), 11);
        x.undo();
        CHECK.due("undone", x.rests(0, 0), 10);
    }

    // ---- RESTS, promise 25

    /** "the price (0 .. 99) at which that is least off from 0": 0. */
    static void itMayRestAt0() {
        YearHands x = Check.town(town(100, 0));
        CHECK.due("price", x.rests(0, 0), 0);
        CHECK.due("asked less offered", x.rests(0, 1), 0);
    }

    /** "the price (0 .. 99)": 99. */
    static void itMayRestAt99() {
        YearHands x = Check.town(town(10, 999));
        CHECK.due("10 years at 99", x.market(99, 0), 0);
        CHECK.due("price", x.rests(0, 0), 91);
        x = Check.town("person a age 1 coin 0 need 0;person b age 0 coin 197 need 100;");
        CHECK.due("1 year at 99, 2 at 98", x.rests(0, 0), 99);
        CHECK.due("asked less offered", x.rests(0, 1), 0);
        x = Check.town("person a age 1 coin 0 need 0;person b age 0 coin 199 need 100;");
        CHECK.due("1 year at 100 alone", x.rests(0, 0), 67);
        CHECK.due("asked less offered", x.rests(0, 1), 1);
    }

    /** "of like ones the least": of many prices, and of one above 0 and one below it. */
    static void ofLikeOnesTheLeastPrice() {
        CHECK.due("all prices are like", Check.town("person a age 30 coin 0 need 20;").rests(0, 0), 0);
        // 35 coins: 17 at 2, 11 at 3, 8 at 4, 7 at 5 and so on.
        CHECK.due("1 above 0 at 4, 0 off at 5", Check.town(town(7, 35)).rests(0, 0), 5);
        // 14 offered: 3 above at 2, 3 below at 3.
        CHECK.due("as far above as below", Check.town(town(14, 35)).rests(0, 0), 2);
        CHECK.due("above it is", Check.town(town(14, 35)).rests(0, 1), 3);
    }

    /** "least off from 0": by what it is off, not which side. */
    static void leastOffFrom0OnBothSides() {
        // 35 coins: 11 at 3, 8 at 4.
        CHECK.due("2 above, 1 below", Check.town(town(9, 35)).rests(0, 0), 4);
        CHECK.due("below it is", Check.town(town(9, 35)).rests(0, 1), -1);
        CHECK.due("1 above, 2 below", Check.town(town(10, 35)).rests(0, 0), 3);
        CHECK.due("above it is", Check.town(town(10, 35)).rests(0, 1), 1);
    }

    /** "with a tax": it is paid beside the price. */
    static void itRestsWithATax() {
        YearHands x = Check.town(TOWN);
        CHECK.due("tax 0", x.rests(0, 0), 10);
        CHECK.due("tax 9", x.rests(9, 0), 1);
        CHECK.due("tax 10", x.rests(10, 0), 0);
        CHECK.due("tax 11", x.rests(11, 0), 0);
        CHECK.due("tax 11, off", x.rests(11, 1), -1);
        CHECK.due("tax 99, off", x.rests(99, 1), -9);
        // 2 years at 50, 1 at 51 .. 100.
        CHECK.due("0 is a price with a tax, too", Check.town(town(1, 100)).rests(51, 0), 0);
    }

    /** "GAP for another what" */
    static void anotherWhatOfRestsIsGap() {
        YearHands x = Check.town(TOWN);
        CHECK.due("rests(0, 2)", x.rests(0, 2), GAP);
        for (int what : FAR_OFF) {
            CHECK.due("rests(0, " + what + ")", x.rests(0, what), GAP);
        }
    }

    /** "GAP for another .. tax" */
    static void anotherTaxOfRestsIsGap() {
        YearHands x = Check.town(TOWN);
        for (int tax : FAR_OFF) {
            CHECK.due("rests(" + tax + ", 0)", x.rests(tax, 0), GAP);
            CHECK.due("rests(" + tax + ", 1)", x.rests(tax, 1), GAP);
        }
        CHECK.due("rests(99, 0)", x.rests(99, 0), 0);
    }

    // ---- CORNER, promise 26

    /** "the price at which it RESTS with all, less that without him": below 0, 0, above 0. */
    static void cornerIsThePriceWithAllLessThatWithout() {
        YearHands x = Check.town(TOWN + "person c age 5 coin 9;");
        // b alone asks for 1 at 51 .. 99, for 2 at 50.
        CHECK.due("without who offers", x.corner(0, 0), 10 - 51);
        CHECK.due("without who asks", x.corner(1, 0), 10);
        CHECK.due("without who does neither", x.corner(2, 0), 0);
    }

    /** "without him": who is alone leaves a MARKET without all, which RESTS at 0. */
    static void cornerOfOneAlone() {
        CHECK.due("who offers", Check.town("person a age 30 coin 0 need 20;").corner(0, 0), 0);
        CHECK.due("who asks", Check.town("person a age 10 coin 20 need 20;").corner(0, 0), 21);
    }

    /** "GAP if one can't be": nobody. */
    static void cornerOfNobodyIsGap() {
        YearHands x = Check.town(TOWN);
        for (int person : new int[] {2, 8, -1, Integer.MIN_VALUE, Integer.MAX_VALUE}) {
            CHECK.due("corner(" + person + ", 0)", x.corner(person, 0), GAP);
        }
    }

    /** "GAP if one can't be": no such tax. */
    static void cornerOfAnotherTaxIsGap() {
        YearHands x = Check.town(TOWN);
        for (int tax : FAR_OFF) {
            CHECK.due("corner(0, " + tax + ")", x.corner(0, tax), GAP);
        }
        CHECK.due("tax 0", x.corner(1, 0), 10);
        CHECK.due("tax 9", x.corner(1, 9), 1);
        CHECK.due("tax 99", x.corner(1, 99), 0);
    }

    /** "GAP if .. he is dead" */
    static void cornerOfTheDeadIsGap() {
        YearHands x = Check.town(TOWN + "odds 100*(age=31);");
        CHECK.due("a dies", x.year(), 1);
        CHECK.due("corner(0, 0)", x.corner(0, 0), GAP);
        CHECK.due("of the living", x.corner(1, 0) > GAP, true);
    }

    /** "nothing is done" by MARKET, RESTS, CORNER. */
    static void nothingIsDone() {
        YearHands x = Check.town(TOWN);
        x.market(1, 1);
        x.rests(0, 0);
        x.corner(0, 0);
        CHECK.due("a", x.person(0, 0), 30);
        CHECK.due("b", x.person(1, 0), 10);
        CHECK.due("b's coin", x.person(1, 1), 100);
        CHECK.due("ACTS", x.about(10), 0);
    }
}
