/** Promises 29 to 32: twice, fair, all, lies. */
public final class SharesTest {
    private static final Check CHECK = new Check("SharesTest");

    public static void main(String[] args) {
        twice();
        twiceWithin();
        fair();
        all();
        allWithin();
        dead();
        CHECK.finish();
    }

    private static void twice() {
        YearHands x = Check.town("person a age 40 coin 0;person b age 20 coin 0;person c age 5 coin 0;person d age 30 coin 0;"
            + "friend b to a price 0;friend a to c price 99;friend a to d price 0;friend a to b price 99;"
            + "right r age > 24;right even age % 2 = 0 and age > 20;right never 0;right always 1;");
        // a and d have it; c and b lack 20 and 5.
        CHECK.due("twice(0)", x.twice(0), 2);
        CHECK.lies("the first by FRIENDS, coins no matter", x, 0, 2, 20);
        // a and d have it; c lacks 17 (22), b 2 (22).
        CHECK.due("twice(1)", x.twice(1), 2);
        CHECK.lies("the fewest years", x, 0, 2, 17);
        CHECK.due("twice(2)", x.twice(2), 0);
        CHECK.lies("behind 0", x);
        x.twice(1);
        CHECK.due("twice(3)", x.twice(3), 0);
        CHECK.lies("all have it", x);
        x.twice(1);
        CHECK.due("twice(4)", x.twice(4), -1);
        CHECK.lies("behind NONE", x);
        CHECK.due("twice(-1)", x.twice(-1), -1);
    }

    private static void twiceWithin() {
        // a can give 5 down to LEAST, b can take 8 up to MOST.
        YearHands x = Check.town("ages 10 to 30;person a age 15 coin 0;person b age 22 coin 0;friend a to b price 0;"
            + "right five age > 26 or age = 15;right six age > 27 or age = 15;");
        CHECK.due("down to LEAST", x.twice(0), 1);
        CHECK.lies("down to LEAST", x, 0, 1, 5);
        CHECK.due("below LEAST", x.twice(1), 0);
        x = Check.town("ages 10 to 30;person a age 30 coin 0;person b age 22 coin 0;friend a to b price 0;"
            + "right r age > 29;right s age > 30 or age = 30 and coin;");
        CHECK.due("up to MOST", x.twice(0), 1);
        CHECK.lies("up to MOST", x, 0, 1, 8);
        CHECK.due("above MOST", x.twice(1), 0);
        x = Check.town("ages 0 to 150;person a age 150 coin 0;person b age 0 coin 0;friend a to b price 0;"
            + "right r age > 98;right s age > 99;");
        CHECK.due("99 years", x.twice(0), 1);
        CHECK.lies("99 years", x, 0, 1, 99);
        CHECK.due("100 years are no GIFT", x.twice(1), 0);
    }

    private static void fair() {
        YearHands x = Check.town("person a age 10 coin 0;person b age 30 coin 0 family 2;person c age 21 coin 0;"
            + "person d age 21 coin 0;person e age 7 coin 0 family 1;");
        // 52 among three: 17 and one more for the older of like ones with the less number.
        CHECK.due("fair(0)", x.fair(0), 7);
        CHECK.lies("fair(0)", x, 17, 18, 17);
        CHECK.due("fair(1)", x.fair(1), 0);
        CHECK.lies("one alone", x, 7);
        CHECK.due("fair(3)", x.fair(3), 0);
        CHECK.lies("an empty family", x);
        x.fair(2);
        CHECK.due("fair(4)", x.fair(4), -1);
        CHECK.lies("behind NONE", x);
        CHECK.due("fair(-1)", x.fair(-1), -1);
        x = Check.town("person a age 10 coin 0;person b age 11 coin 0;");
        CHECK.due("as like as can be", x.fair(0), 0);
        CHECK.lies("the older one has one more", x, 10, 11);
        x = Check.town("person a age 10 coin 0;person b age 11 coin 0;person c age 12 coin 0;person d age 14 coin 0;");
        CHECK.due("three over", x.fair(0), 2);
        CHECK.lies("three over", x, 11, 12, 12, 12);
    }

    private static void all() {
        YearHands x = Check.town("person a age 40 coin 0;person b age 10 coin 0;person c age 15 coin 0;person d age 10 coin 0;"
            + "person e age 30 coin 0;person f age 12 coin 0;"
            + "friend a to d price 99;friend a to b price 99;friend a to c price 99;friend a to e price 99;friend b to f price 0;"
            + "right r age > 19;right even age % 2 and age > 12;right s age > 29;");
        // c lacks 5, b and d 10 each: 25 of 40; e has it, f is no FRIEND.
        CHECK.due("all(0, 0)", x.all(0, 0), 3);
        CHECK.lies("fewest years first, then by number", x, 2, 1, 3);
        // c 15 has it; e 30 lacks 1, b and d 3 each.
        CHECK.due("all(0, 1)", x.all(0, 1), 3);
        CHECK.lies("fewest years first", x, 4, 1, 3);
        // c lacks 15, b 20: 35; d 20 more are too many.
        CHECK.due("all(0, 2)", x.all(0, 2), 2);
        CHECK.lies("not enough for all", x, 2, 1);
        CHECK.due("all(1, 0)", x.all(1, 0), 1);
        CHECK.lies("straight", x, 5);
        CHECK.due("all(2, 0)", x.all(2, 0), 0);
        CHECK.lies("without FRIENDS", x);
        x.all(0, 0);
        CHECK.due("all(0, 3)", x.all(0, 3), -1);
        CHECK.lies("behind NONE", x);
        CHECK.due("all(0, -1)", x.all(0, -1), -1);
        CHECK.due("all(6, 0)", x.all(6, 0), -1);
        CHECK.due("all(-1, 0)", x.all(-1, 0), -1);
    }

    private static void allWithin() {
        YearHands x = Check.town("ages 10 to 30;person a age 25 coin 0;person b age 16 coin 0;person c age 10 coin 0;"
            + "friend a to b price 0;friend a to c price 0;right r age > 29;right s age > 30;right t age > 24;");
        // 15 down to LEAST: b takes 14, c would need 20.
        CHECK.due("up to MOST", x.all(0, 0), 1);
        CHECK.lies("up to MOST", x, 1);
        CHECK.due("above MOST", x.all(0, 1), 0);
        // b takes 9, c would need 15.
        CHECK.due("what is left", x.all(0, 2), 1);
        x = Check.town("ages 10 to 30;person a age 25 coin 0;person c age 10 coin 0;friend a to c price 0;right t age > 24;");
        CHECK.due("all he has, down to LEAST", x.all(0, 0), 1);
        x = Check.town("ages 0 to 150;person a age 150 coin 0;person b age 0 coin 0;friend a to b price 0;right t age > 120;");
        CHECK.due("more than one GIFT can be", x.all(0, 0), 1);
    }

    private static void dead() {
        YearHands x = Check.town("person a age 40 coin 0;person b age 10 coin 0;person c age 15 coin 0;"
            + "friend a to b price 0;friend a to c price 0;friend b to c price 0;right r age > 19;odds 100 * (age = 11);");
        CHECK.due("year()", x.year(), 1);
        CHECK.due("twice(0)", x.twice(0), 1);
        CHECK.lies("not to the dead", x, 0, 2, 4);
        CHECK.due("all(0, 0)", x.all(0, 0), 1);
        CHECK.lies("not the dead", x, 2);
        CHECK.due("all of the dead", x.all(1, 0), -1);
        CHECK.lies("behind NONE", x);
        CHECK.due("fair(0)", x.fair(0), 12);
        CHECK.lies("without the dead", x, 29, 28);
        CHECK.due("lies(MIN)", x.lies(Integer.MIN_VALUE), YearHands.GAP);
        CHECK.due("lies(MAX)", x.lies(Integer.MAX_VALUE), YearHands.GAP);
    }
}
