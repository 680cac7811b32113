/** Promises 16 to 20: target, hush, cheapest, barred, reach. */
public final class RoadsTest {
    private static final Check CHECK = new Check("RoadsTest");
    /** By b it is cheaper from a to c than straight; d is reached by nobody, e gives to nobody. */
    private static final String TOWN = "ages 10 to 60;person a age 30 coin 0;person b age 20 coin 0;person c age 20 coin 7;"
        + "person d age 40 coin 0;person e age 50 coin 0;"
        + "friend a to b price 2;friend b to c price 3;friend a to c price 9;friend c to a price 1;friend d to a price 4;"
        + "friend b to e price 0;";

    public static void main(String[] args) {
        targets();
        cheapest();
        takingBack();
        byTheDead();
        dead();
        barred();
        reach();
        CHECK.finish();
    }

    private static void targets() {
        YearHands x = Check.town(TOWN);
        CHECK.due("target(0, 10)", x.target(0, 10), 1);
        CHECK.due("target(4, 60)", x.target(4, 60), 2);
        CHECK.due("in place of another one", x.target(0, 11), 2);
        CHECK.due("below LEAST", x.target(1, 9), -1);
        CHECK.due("above MOST", x.target(1, 61), -1);
        CHECK.due("nobody", x.target(5, 20), -1);
        CHECK.due("nobody below", x.target(-1, 20), -1);
        CHECK.due("about(12)", x.about(12), 2);
        CHECK.due("hush()", x.hush(), 2);
        CHECK.due("hush() again", x.hush(), 0);
        CHECK.due("about(12)", x.about(12), 0);
    }

    private static void cheapest() {
        YearHands x = Check.town(TOWN);
        CHECK.due("without TARGETS", x.cheapest(), 0);
        x.target(0, 30);
        CHECK.due("as it is", x.cheapest(), 0);
        x.target(0, 25);
        CHECK.due("years too many", x.cheapest(), -1);
        x.target(2, 25);
        CHECK.due("a to c by b", x.cheapest(), 25);
        x.target(2, 24);
        CHECK.due("one too many", x.cheapest(), -1);
        x.target(4, 51);
        CHECK.due("a to c, a to e", x.cheapest(), 4 * 5 + 2);
        x.hush();
        x.target(4, 49);
        x.target(0, 31);
        CHECK.due("e gives to nobody", x.cheapest(), -1);
        x.hush();
        x.target(3, 41);
        x.target(0, 29);
        CHECK.due("nobody gives to d", x.cheapest(), -1);
        x.hush();
        x.target(3, 10);
        x.target(4, 60);
        x.target(1, 40);
        CHECK.due("d by a to b and e", x.cheapest(), 30 * 6);
        CHECK.due("nothing is done", x.person(3, 0), 40);
        // Coins do not matter, nor ages between: b would be above MOST on the way.
        x = Check.town("ages 0 to 20;person a age 20 coin 0;person b age 20 coin 0;person c age 0 coin 0;"
            + "friend a to b price 99;friend b to c price 99;");
        x.target(0, 0);
        x.target(2, 20);
        CHECK.due("by one who is at MOST", x.cheapest(), 20 * 198);
    }

    private static void takingBack() {
        // a is near to c and d, b near to c alone: a must leave c to b.
        YearHands x = Check.town("person a age 5 coin 0;person b age 5 coin 0;person c age 0 coin 0;person d age 0 coin 0;"
            + "friend a to c price 1;friend a to d price 2;friend b to c price 3;friend b to d price 90;");
        x.target(0, 0);
        x.target(1, 0);
        x.target(2, 5);
        x.target(3, 5);
        CHECK.due("the nearest is not the cheapest", x.cheapest(), 5 * 2 + 5 * 3);
        x.target(2, 7);
        x.target(3, 3);
        CHECK.due("some to both", x.cheapest(), 3 * 2 + 2 * 1 + 5 * 3);
        // Only the two years that a sent to c can be taken back; the other three must go from b to d.
        x = Check.town("person a age 2 coin 0;person b age 6 coin 0;person c age 0 coin 0;person d age 0 coin 0;"
            + "friend a to c price 1;friend a to d price 2;friend b to c price 3;friend b to d price 90;");
        x.target(0, 0);
        x.target(1, 0);
        x.target(2, 3);
        x.target(3, 5);
        CHECK.due("no more than was sent", x.cheapest(), 2 * 2 + 3 * 3 + 3 * 90);
        CHECK.due("the same again", x.cheapest(), 2 * 2 + 3 * 3 + 3 * 90);
        x = Check.town("person a age 9 coin 0;person b age 9 coin 0;friend a to b price 5;friend b to a price 7;");
        x.target(0, 4);
        x.target(1, 14);
        CHECK.due("from a to b", x.cheapest(), 25);
        x.target(0, 14);
        x.target(1, 4);
        CHECK.due("what was sent in an earlier call is no matter", x.cheapest(), 35);
    }

    private static void byTheDead() {
        YearHands x = Check.town("person a age 30 coin 0;person b age 20 coin 0;person c age 30 coin 0;"
            + "friend a to b price 1;friend b to c price 1;odds 100 * (age = 21);right r age > 39;");
        x.target(0, 25);
        x.target(2, 37);
        CHECK.due("b dies", x.year(), 1);
        CHECK.due("no ROAD by the dead", x.cheapest(), -1);
        CHECK.due("both are barred", x.barred(), 1 | 4);
        CHECK.due("no REACH by the dead", x.reach(2, 0, 0), -1);
        x.undo();
        x.target(0, 25);
        x.target(2, 35);
        CHECK.due("a ROAD by the living", x.cheapest(), 10);
        CHECK.due("nobody is barred", x.barred(), 0);
        CHECK.due("REACH by the living", x.reach(2, 0, 0), 10);
    }

    private static void dead() {
        YearHands x = Check.town(TOWN + "odds 100 * (age = 21);right r age > 40;");
        x.target(0, 26);
        x.target(2, 25);
        x.target(1, 60);
        CHECK.due("b and c die", x.year(), 2);
        CHECK.due("TARGETS of the dead are kept", x.about(12), 3);
        CHECK.due("a has no other one to give to", x.cheapest(), -1);
        x.target(0, 31);
        CHECK.due("those of the dead are no matter", x.cheapest(), 0);
        CHECK.due("nor barred", x.barred(), 0);
        x.target(0, 30);
        CHECK.due("no ROAD by the dead: a is barred from less", x.barred(), 1);
        CHECK.due("e is reached by nobody", x.target(4, 52), 4);
        CHECK.due("a and e are barred", x.barred(), 1 | 16);
        CHECK.due("a TARGET of the dead", x.target(1, 30), 4);
        CHECK.due("reach of the dead", x.reach(1, 0, 0), -1);
        CHECK.due("reach by d alone", x.reach(0, 0, 0), 40);
    }

    private static void barred() {
        YearHands x = Check.town(TOWN);
        CHECK.due("nobody", x.barred(), 0);
        x.target(3, 40);
        CHECK.due("as it is", x.barred(), 0);
        x.target(3, 41);
        CHECK.due("nobody gives to d", x.barred(), 8);
        x.target(3, 10);
        CHECK.due("d can give all", x.barred(), 0);
        x.target(4, 49);
        CHECK.due("e gives to nobody", x.barred(), 16);
        x.target(4, 60);
        CHECK.due("e can have more", x.barred(), 0);
        x.target(0, 60);
        CHECK.due("a can have 50 of b, c and d", x.barred(), 0);
        // a 12 has all but 5 years of what there is: b can give 3 down to LEAST, c 2.
        x = Check.town("ages 10 to 20;person a age 12 coin 0;person b age 13 coin 0;person c age 12 coin 0;"
            + "person d age 20 coin 0;friend b to a price 1;friend c to b price 1;friend a to d price 1;friend a to c price 1;");
        x.target(0, 17);
        CHECK.due("five more", x.barred(), 0);
        x.target(0, 18);
        CHECK.due("six more", x.barred(), 1);
        // d is at MOST: b and c have room for 15.
        x.target(0, 10);
        CHECK.due("two less", x.barred(), 0);
        x.target(1, 20);
        x.target(2, 20);
        // b lacks 7: a can give 2, c 2, d none. c lacks 8: a can give 2, b 3.
        CHECK.due("each by himself", x.barred(), 2 | 4);
    }

    private static void reach() {
        YearHands x = Check.town(TOWN + "right young age < 15;right old age > 59;right rich coin > 6;right none age > 60;"
            + "right two age % 7 = 3;");
        CHECK.due("a gives 16", x.reach(0, 0, 0), 16 * 2);
        CHECK.due("a at 14", x.reach(0, 0, 1), 14);
        // c is dearest from d (5) and a (5 by b), b gives it for 3; b has 10, then 30 of a and d at 5 and 9.
        CHECK.due("c to 60", x.reach(2, 1, 0), 10 * 3 + 20 * 5 + 10 * 9);
        CHECK.due("c at 60", x.reach(2, 1, 1), 60);
        CHECK.due("it HAS it already", x.reach(2, 2, 0), 0);
        CHECK.due("as it is", x.reach(2, 2, 1), 20);
        CHECK.due("coins do not come", x.reach(0, 2, 0), -1);
        CHECK.due("coins do not come", x.reach(0, 2, 1), -1);
        CHECK.due("no age", x.reach(0, 3, 0), -1);
        CHECK.due("e gives nothing", x.reach(4, 0, 0), -1);
        CHECK.due("d has nothing", x.reach(3, 1, 0), -1);
        // a 30: 31 costs 1 (c to a), 24 costs 6 times 2: 31 is the cheapest of 10, 17, 24, 31, ..
        CHECK.due("by the cheaper way", x.reach(0, 4, 0), 1);
        CHECK.due("by the cheaper way", x.reach(0, 4, 1), 31);
        CHECK.due("what 2", x.reach(0, 0, 2), -1);
        CHECK.due("what -1", x.reach(0, 0, -1), -1);
        CHECK.due("no RIGHT", x.reach(0, 5, 0), -1);
        CHECK.due("no RIGHT", x.reach(0, -1, 0), -1);
        CHECK.due("nobody", x.reach(5, 0, 0), -1);
        CHECK.due("nobody", x.reach(-1, 0, 0), -1);
        x = Check.town("person a age 20 coin 0;person b age 20 coin 0;friend a to b price 0;friend b to a price 0;right r age;");
        CHECK.due("for nothing", x.reach(0, 0, 0), 0);
        CHECK.due("the least age of these", x.reach(0, 0, 1), 1);
        x = Check.town("person a age 20 coin 0;person b age 20 coin 0;friend a to b price 1;friend b to a price 1;"
            + "right r age % 10 = 5;");
        CHECK.due("of like ones", x.reach(0, 0, 0), 5);
        CHECK.due("the least age", x.reach(0, 0, 1), 15);
    }
}
