/** Promises 33 to 38: face, untell, later, explained, sure, forged. */
public final class FacesTest {
    private static final Check CHECK = new Check("FacesTest");
    private static final String TOWN = "ages 10 to 60;person a age 30 coin 0;person b age 20 coin 0;person c age 40 coin 0;"
        + "friend a to b price 99;friend b to c price 99;friend a to c price 99;";

    public static void main(String[] args) {
        told();
        times();
        explained();
        without();
        sure();
        forged();
        beginning();
        CHECK.finish();
    }

    private static void told() {
        YearHands x = Check.town(TOWN);
        CHECK.due("face(0, 10)", x.face(0, 10), 0);
        CHECK.due("face(2, 60)", x.face(2, 60), 1);
        CHECK.due("below LEAST", x.face(0, 9), -1);
        CHECK.due("above MOST", x.face(0, 61), -1);
        CHECK.due("nobody", x.face(3, 30), -1);
        CHECK.due("nobody", x.face(-1, 30), -1);
        CHECK.due("untell(0)", x.untell(0), true);
        CHECK.due("untell(0) again", x.untell(0), false);
        CHECK.due("untell(2)", x.untell(2), false);
        CHECK.due("untell(-1)", x.untell(-1), false);
        for (int i = 2; i < 30; i++) {
            CHECK.due("face " + i, x.face(1, 20), i);
        }
        CHECK.due("the thirty-first", x.face(1, 20), -1);
        CHECK.due("about(13)", x.about(13), 30);
        CHECK.due("later(0)", x.later(0), 0);
        CHECK.due("later(-1)", x.later(-1), -1);
        CHECK.due("later(1001)", x.later(1001), -1);
        for (int i = 1; i <= 99; i++) {
            CHECK.due("later(1000)", x.later(1000), 1000 * i);
        }
        CHECK.due("later(999)", x.later(999), 99999);
        CHECK.due("above the last TIME", x.later(2), -1);
        CHECK.due("the last TIME", x.later(1), 100000);
        CHECK.due("later(0) still", x.later(0), 100000);
        CHECK.due("later(1)", x.later(1), -1);
        CHECK.due("about(14)", x.about(14), 100000);
    }

    private static void times() {
        YearHands x = Check.town(TOWN);
        CHECK.due("later(5)", x.later(5), 5);
        x.face(0, 29);
        x.later(5);
        x.untell(0);
        x.face(1, 21);
        x.untell(1);
        CHECK.due("before it was TOLD", x.forged(4), 0);
        CHECK.due("when it was TOLD", x.forged(5), 1);
        CHECK.due("before it was UNTOLD", x.forged(9), 1);
        CHECK.due("when it was UNTOLD", x.forged(10), 0);
        CHECK.due("much later", x.forged(Integer.MAX_VALUE), 0);
        CHECK.due("far before", x.forged(Integer.MIN_VALUE), 0);
        CHECK.due("later than now", x.forged(11), 0);
        x.face(1, 21);
        CHECK.due("later than now", x.forged(11), 2);
        CHECK.due("told again", Check.tell(x, TOWN), 3);
        CHECK.due("FACES are gone", x.about(13), 0);
        CHECK.due("the TIME stays", x.about(14), 10);
    }

    private static void explained() {
        YearHands x = Check.town(TOWN);
        x.face(0, 28);
        // a gives 2: to b, to c; with any of b to c; 1 to b and 1 to c.
        CHECK.due("explained(0)", x.explained(0), 2 + 9 + 9 + 1);
        CHECK.lies("one GIFT", x, 0, 2);
        x.face(1, 20);
        // By a to b 2 and b to c 2; by a to c 2.
        CHECK.due("b as told", x.explained(0), 2);
        CHECK.lies("fewer GIFTS first", x, 2, 2);
        x.face(2, 42);
        CHECK.due("c, too", x.explained(0), 2);
        x.face(2, 42);
        CHECK.due("the same again", x.explained(0), 2);
        x.face(2, 41);
        CHECK.due("two unlike FACES", x.explained(0), 0);
        CHECK.lies("behind 0", x);
        x.untell(4);
        CHECK.due("without it", x.explained(0), 2);
        CHECK.due("before all", x.explained(-1), 1 + 27 + 3 * 81);
        CHECK.lies("without GIFTS", x);
        x = Check.town(TOWN);
        x.face(0, 25);
        x.face(1, 21);
        x.face(2, 44);
        CHECK.due("two GIFTS", x.explained(0), 2);
        CHECK.lies("the first FRIENDS first", x, 0, 1, 2, 4);
        x = Check.town(TOWN);
        x.face(0, 20);
        // 10 by one GIFT can't be: 1 to 9 to b and the rest to c.
        CHECK.due("ten years", x.explained(0), 9);
        CHECK.lies("the fewest years first", x, 0, 1, 2, 9);
        x = Check.town(TOWN);
        x.face(0, 10);
        CHECK.due("twenty years", x.explained(0), 0);
        x = Check.town(TOWN);
        x.face(0, 31);
        CHECK.due("nobody gives to a", x.explained(0), 0);
        x = Check.town("ages 10 to 60;person a age 10 coin 0;person b age 60 coin 0;friend a to b price 9;person c age 30 coin 0;"
            + "friend b to c price 9;");
        x.face(2, 39);
        // LEAST and MOST are no matter: b gives 9; a gives 1 to 9, too.
        CHECK.due("beyond the ages", x.explained(0), 10);
        CHECK.lies("beyond the ages", x, 1, 9);
    }

    private static void without() {
        CHECK.due("nobody", new YearHands().explained(0), 1);
        YearHands x = Check.town("person a age 30 coin 0;person b age 30 coin 0;");
        x.twice(0);
        CHECK.due("without FRIENDS", x.explained(0), 1);
        CHECK.lies("without FRIENDS", x);
        x.face(0, 31);
        CHECK.due("without FRIENDS", x.explained(0), 0);
        StringBuilder text = new StringBuilder();
        for (char p = 'a'; p < 'f'; p++) {
            text.append("person ").append(p).append(" age 50 coin 0;");
        }
        for (char p = 'a'; p < 'f'; p++) {
            for (char q = 'a'; q < 'f'; q++) {
                text.append(p == q ? "" : "friend " + p + " to " + q + " price 0;");
            }
        }
        x = Check.town(text.toString());
        CHECK.due("all that can be", x.explained(0), 1 + 20 * 9 + 190 * 81);
        CHECK.due("not sure", x.sure(0, 0), -2);
        x.face(0, 59);
        x.face(1, 41);
        CHECK.due("two who are far off", x.sure(2, 0), -2);
        x.face(2, 58);
        x.face(3, 42);
        // b or d to a 9, the other one to c 8, or so: 9 of b to a and 8 of d to c is the only way.
        CHECK.due("four who are far off", x.explained(0), 1);
        CHECK.lies("four who are far off", x, 4, 9, 14, 8);
        CHECK.due("sure of the fifth", x.sure(4, 0), 50);
    }

    private static void sure() {
        YearHands x = Check.town(TOWN);
        x.face(0, 28);
        CHECK.due("sure(0, 0)", x.sure(0, 0), 28);
        CHECK.due("sure(1, 0)", x.sure(1, 0), -2);
        x.face(1, 20);
        CHECK.due("sure(2, 0)", x.sure(2, 0), 42);
        CHECK.due("sure(3, 0)", x.sure(3, 0), -1);
        CHECK.due("sure(-1, 0)", x.sure(-1, 0), -1);
        CHECK.due("before all", x.sure(2, -1), -2);
        x.later(1);
        x.face(1, 60);
        CHECK.due("no GIFTS", x.sure(2, 1), -1);
        CHECK.due("a TIME before", x.sure(2, 0), 42);
        x = Check.town("ages 10 to 60;person a age 10 coin 0;person b age 60 coin 0;friend a to b price 9;person c age 30 coin 0;"
            + "friend b to c price 9;");
        x.face(1, 60);
        x.face(2, 39);
        CHECK.due("beyond LEAST", x.sure(0, 0), 1);
        x = Check.town("person a age 30 coin 0;");
        CHECK.due("without FRIENDS", x.sure(0, 0), 30);
        x.twice(0);
        x = Check.town(TOWN);
        x.fair(0);
        x.sure(0, 0);
        CHECK.due("nothing else lies there", x.about(17), 3);
    }

    private static void forged() {
        YearHands x = Check.town(TOWN);
        CHECK.due("without FACES", x.forged(0), 0);
        x.face(0, 30);
        CHECK.due("as told", x.forged(0), 0);
        x.face(1, 21);
        CHECK.due("b", x.forged(0), 2);
        x.face(1, 21);
        CHECK.due("b still", x.forged(0), 2);
        x.later(1);
        x.face(1, 22);
        CHECK.due("two unlike FACES", x.forged(1), 0);
        CHECK.due("before that", x.forged(0), 2);
        x.untell(3);
        x.face(2, 41);
        CHECK.due("two PEOPLE", x.forged(1), 0);
        x.untell(4);
        x.face(1, 20);
        CHECK.due("as told and unlike", x.forged(1), 0);
    }

    private static void beginning() {
        // FACES are of the beginning: what ACTS do is no matter.
        YearHands x = Check.town(TOWN + "odds 100;");
        x.face(0, 28);
        CHECK.due("year()", x.year(), 3);
        CHECK.due("explained(0)", x.explained(0), 21);
        CHECK.due("sure(0, 0)", x.sure(0, 0), 28);
        CHECK.due("forged(0)", x.forged(0), 1);
        CHECK.due("a FACE of the dead", x.face(1, 20), 1);
        CHECK.due("explained(0)", x.explained(0), 2);
        x.undo();
        CHECK.due("FACES are not undone", x.about(13), 2);
    }
}
