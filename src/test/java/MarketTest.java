/** Promises 24 to 26: market, rests, corner. */
public final class MarketTest {
    private static final Check CHECK = new Check("MarketTest");
    private static final int GAP = YearHands.GAP;

    public static void main(String[] args) {
        market();
        rests();
        corner();
        dead();
        CHECK.finish();
    }

    private static void market() {
        // a offers 10; b asks for 8 with 20 coins, c for 5 with 100.
        YearHands x = Check.town("person a age 30 coin 0 need 20;person b age 12 coin 20 need 20;"
            + "person c age 15 coin 100 need 20;person d age 40 coin 5;");
        CHECK.due("market(0, 0), all", x.market(0, 0), 8 + 5 - 10);
        CHECK.due("market(2, 0)", x.market(2, 0), 8 + 5 - 10);
        CHECK.due("market(3, 0), cut", x.market(3, 0), 6 + 5 - 10);
        CHECK.due("market(0, 3)", x.market(0, 3), 6 + 5 - 10);
        CHECK.due("market(3, 4)", x.market(3, 4), 2 + 5 - 10);
        CHECK.due("market(20, 0)", x.market(20, 0), 1 + 5 - 10);
        CHECK.due("market(21, 0)", x.market(21, 0), 4 - 10);
        CHECK.due("market(99, 0)", x.market(99, 0), 1 - 10);
        CHECK.due("market(99, 99)", x.market(99, 99), -10);
        CHECK.due("market(-1, 0)", x.market(-1, 0), GAP);
        CHECK.due("market(100, 0)", x.market(100, 0), GAP);
        CHECK.due("market(0, -1)", x.market(0, -1), GAP);
        CHECK.due("market(0, 100)", x.market(0, 100), GAP);
    }

    private static void rests() {
        YearHands x = Check.town("person a age 30 coin 0 need 20;person b age 10 coin 100 need 30;");
        // b asks for 100 / price, 20 at most: 10 at 10.
        CHECK.due("rests(0, 0)", x.rests(0, 0), 10);
        CHECK.due("rests(0, 1)", x.rests(0, 1), 0);
        CHECK.due("rests(4, 0)", x.rests(4, 0), 6);
        CHECK.due("rests(10, 0)", x.rests(10, 0), 0);
        CHECK.due("rests(20, 0)", x.rests(20, 0), 0);
        CHECK.due("rests(20, 1)", x.rests(20, 1), -5);
        CHECK.due("rests(99, 1)", x.rests(99, 1), -9);
        CHECK.due("rests(100, 0)", x.rests(100, 0), GAP);
        CHECK.due("rests(-1, 0)", x.rests(-1, 0), GAP);
        CHECK.due("rests(0, 2)", x.rests(0, 2), GAP);
        CHECK.due("rests(0, -1)", x.rests(0, -1), GAP);
        x = Check.town("person b age 10 coin 999 need 12;");
        CHECK.due("asked more than offered at each price", x.rests(0, 1), 2);
        CHECK.due("the least of like ones", x.rests(0, 0), 0);
        // 35 coins: 8 at 4, 7 at 5: as far off from 7.5 none is; from 8 offered it rests at 4.
        x = Check.town("person a age 28 coin 0 need 20;person b age 10 coin 35 need 30;");
        CHECK.due("rests(0, 0)", x.rests(0, 0), 4);
        // 9 offered: 11 at 3, 8 at 4, so 4.
        x = Check.town("person a age 29 coin 0 need 20;person b age 10 coin 35 need 30;");
        CHECK.due("rests above 0", x.rests(0, 0), 4);
        CHECK.due("what is left", x.rests(0, 1), -1);
    }

    private static void corner() {
        YearHands x = Check.town("person a age 30 coin 0 need 20;person b age 10 coin 100 need 30;"
            + "person c age 25 coin 0 need 20;");
        // All: 100 / price is next to 15 at 6 (16) and 7 (14): 6. Without c 10, without a 20.
        CHECK.due("rests with all", x.rests(0, 0), 6);
        CHECK.due("corner(0, 0)", x.corner(0, 0), 6 - 17);
        CHECK.due("corner(1, 0)", x.corner(1, 0), 6);
        CHECK.due("corner(2, 0)", x.corner(2, 0), 6 - 10);
        CHECK.due("corner(2, 3)", x.corner(2, 3), 3 - 7);
        CHECK.due("corner(3, 0)", x.corner(3, 0), GAP);
        CHECK.due("corner(-1, 0)", x.corner(-1, 0), GAP);
        CHECK.due("corner(0, 100)", x.corner(0, 100), GAP);
        CHECK.due("corner(0, -1)", x.corner(0, -1), GAP);
    }

    private static void dead() {
        YearHands x = Check.town("person a age 30 coin 0 need 20;person b age 10 coin 100 need 30;odds 100 * (age = 31);");
        CHECK.due("year()", x.year(), 1);
        CHECK.due("the dead offer nothing", x.market(0, 0), 19);
        CHECK.due("corner of the dead", x.corner(0, 0), GAP);
        CHECK.due("rests(0, 0)", x.rests(0, 0), 51);
    }
}
