/** TWICE, FAIR, ALL, what lies there, promises 29 to 32: each boundary case has one test, named after its sentence. */
public final class SharesBoundsTest {
    private static final Check CHECK = new Check("SharesBoundsTest");
    private static final int[] FAR_OFF = {-1, Integer.MIN_VALUE, Integer.MAX_VALUE};
    private static final String TWO = "ages 10 to 60;person a age 30 coin 0;person b age 20 coin 0;friend a to b price 99;";
    /** The same, where a RIGHT may be told of a alone, by his family. */
    private static final String KIN = TWO.replace("30 coin 0", "30 coin 0 family 1");

    public static void main(String[] args) {
        CHECK.runAll(SharesBoundsTest.class);
    }

    private static void twice(String town, int due, int... lie) {
        YearHands x = Check.town(town);
        CHECK.due("twice(0) of " + town, x.twice(0), due);
        CHECK.lies("twice(0) of " + town, x, lie);
    }

    private static void fair(String town, int due, int... lie) {
        YearHands x = Check.town(town);
        CHECK.due("fair(0) of " + town, x.fair(0), due);
        CHECK.lies("fair(0) of " + town, x, lie);
    }

    private static void all(String town, int due, int... lie) {
        YearHands x = Check.town(town);
        CHECK.due("all(0, 0) of " + town, x.all(0, 0), due);
        CHECK.lies("all(0, 0) of " + town, x, lie);
    }

    private static String people(int... ages) {
        StringBuilder text = new StringBuilder();
        for (int p = 0; p < ages.length; p++) {
            text.append("person ").append((char) ('a' + p)).append(" age ").append(ages[p]).append(" coin 0;");
        }
        return text.toString();
    }

    // ---- TWICE, promise 29

    /** "TWICE: FRIENDS of which the first HAS a RIGHT": if he has not, or is the second, there is none. */
    static void theFirstHasTheRight() {
        twice(KIN + "right r family=1 or age=22;", 1, 0, 1, 2);
        twice(KIN + "right r age=22;", 0);
        twice(KIN.replace("a to b", "b to a") + "right r family=0 or age=32;", 1, 1, 0, 2);
        twice(KIN.replace("a to b", "b to a") + "right r family=1 or age=22;", 0);
    }

    /** "the second has not" */
    static void theSecondHasItNot() {
        twice(TWO + "right r age>19;", 0);
        twice(TWO + "right r age>20;", 1, 0, 1, 1);
    }

    /** "would by some GIFT": one year is some, none is none. */
    static void bySomeGiftOfOneYear() {
        twice(KIN + "right r family=1 or age=21;", 1, 0, 1, 1);
        twice(KIN + "right r family=1 or age=19;", 0);
    }

    /** "some GIFT": of 99 years at most. */
    static void bySomeGiftOf99Years() {
        String town = "ages 0 to 150;person a age 150 coin 0;person b age 0 coin 0;friend a to b price 0;";
        twice(town + "right r age>98;", 1, 0, 1, 99);
        twice(town + "right r age>99;", 0);
    }

    /** "some GIFT": down to LEAST. */
    static void bySomeGiftDownToLeast() {
        twice(KIN + "right r family=1 or age=40;", 1, 0, 1, 20);
        twice(KIN + "right r family=1 or age=41;", 0);
    }

    /** "some GIFT": up to MOST. */
    static void bySomeGiftUpToMost() {
        String town = "ages 10 to 60;person a age 50 coin 0 family 1;person b age 40 coin 0;friend a to b price 0;";
        twice(town + "right r family=1 or age=60;", 1, 0, 1, 20);
        twice(town + "right r family=1 or age=61;", 0);
        twice(town.replace("40", "60") + "right r family=1 or age=61;", 0);
    }

    /** "from the first": who is at LEAST has no year to give. */
    static void whoIsAtLeastGivesNone() {
        twice(KIN.replace("30", "10") + "right r family=1 or age>20;", 0);
        twice(KIN.replace("30", "11") + "right r family=1 or age>20;", 1, 0, 1, 1);
    }

    /** "(coins no matter)": the price is not asked for, nor does it change what one HAS. */
    static void coinsAreNoMatterToTwice() {
        twice(KIN + "right r family=1 or age=21;", 1, 0, 1, 1);
        twice(KIN.replace("20 coin 0", "20 coin 99") + "right r family=1 or age=21 and coin=99;", 1, 0, 1, 1);
        twice(KIN.replace("20 coin 0", "20 coin 99") + "right r family=1 or age=21 and coin=0;", 0);
    }

    /** "how many; the first of these, the fewest years" */
    static void theFirstOfTheseTheFewestYears() {
        String town = "ages 10 to 60;person a age 40 coin 0 family 1;person b age 20 coin 0;person c age 30 coin 0;"
            + "person d age 25 coin 0;friend b to a price 0;friend a to c price 0;friend a to d price 0;friend a to b price 0;";
        twice(town + "right r family=1 or age=32 or age=35;", 3, 0, 2, 2);
        twice(town + "right r family=1 or age=29;", 2, 0, 3, 4);
        twice(town + "right r family=1 or age=21;", 1, 0, 1, 1);
        twice(town.replace("b age 20 coin 0", "b age 20 coin 0 family 1") + "friend b to c price 0;right r family=1 or age=32;",
            3, 0, 2, 2);
    }

    /** "FRIENDS ..: how many": the last of twenty counts, too. */
    static void theLastOfTwentyFriendsIsAskedForTwice() {
        StringBuilder text = new StringBuilder(people(20, 20, 20, 20, 20, 20, 20) + "person h age 20 coin 1;");
        for (int i = 0; i < 19; i++) {
            text.append("friend ").append((char) ('a' + i / 6)).append(" to ");
            text.append((char) ('a' + i % 6 + (i % 6 >= i / 6 ? 1 : 0))).append(" price 0;");
        }
        twice(text + "friend h to g price 0;right r coin=1 or age=25;", 1, 7, 6, 5);
    }

    /** "The first lies there then, .. (behind 0, NONE: nothing)": behind 0. */
    static void nothingLiesBehindTwiceOf0() {
        YearHands x = Check.town(TWO + "right r age>20;right s 0;");
        x.twice(0);
        CHECK.due("three lie there", x.about(17), 3);
        CHECK.due("twice(1)", x.twice(1), 0);
        CHECK.lies("twice(1)", x);
    }

    /** "NONE if there is no such RIGHT. .. (behind .. NONE: nothing)" */
    static void twiceOfNoSuchRightIsNone() {
        YearHands x = Check.town(TWO + "right r age>20;");
        for (int right : new int[] {1, 6, -1, Integer.MIN_VALUE, Integer.MAX_VALUE}) {
            x.twice(0);
            CHECK.due("twice(" + right + ")", x.twice(right), -1);
            CHECK.lies("twice(" + right + ")", x);
        }
    }

    /** "PEOPLE that are alive": neither of the two is dead. */
    static void twiceOfTheLiving() {
        YearHands x = Check.town(TWO + "right r age>25;odds 100*(age=31);");
        CHECK.due("a dies", x.year(), 1);
        CHECK.due("twice(0)", x.twice(0), 0);
        x = Check.town(TWO + "right r age>25;odds 100*(age=21);");
        CHECK.due("b dies", x.year(), 1);
        CHECK.due("twice(0)", x.twice(0), 0);
        CHECK.lies("twice(0)", x);
    }

    /** "By all as it is now": whoever gives, takes has his age behind ACTS. */
    static void twiceIsByAgesNow() {
        YearHands x = Check.town(KIN.replace("price 99", "price 0") + "right r family=1 or age=41;right s family=1 or age=33;");
        CHECK.due("twenty years are all that a has", x.twice(0), 0);
        x.year();
        CHECK.due("a YEAR later", x.twice(0), 1);
        CHECK.lies("20 of 31 to who is 21", x, 0, 1, 20);
        x.give(0, 1, 2);
        CHECK.due("behind a GIFT", x.twice(0), 1);
        CHECK.lies("18 of 29 to who is 23", x, 0, 1, 18);
        x.give(0, 1, 18);
        CHECK.due("he has it", x.twice(0), 0);
        x.undo();
        x.give(0, 1, 17);
        CHECK.due("a has two years", x.twice(0), 1);
        CHECK.lies("1 of 12", x, 0, 1, 1);
        x.give(0, 1, 2);
        CHECK.due("a has none, b is too old", x.twice(0), 0);
        CHECK.due("b is too old", x.twice(1), 0);
        x = Check.town(KIN + "person c age 50 coin 0;friend c to a price 0;right r family=1 or age=41;");
        CHECK.due("a has 20, b lacks 21", x.twice(0), 0);
        x.give(2, 0, 1);
        CHECK.due("a has 21 now", x.twice(0), 1);
        CHECK.lies("a has 21 now", x, 0, 1, 21);
    }

    // ---- FAIR, promise 30

    /** "a family's years as like as can be": they go up. */
    static void familysYearsAreAllLike() {
        fair(people(10, 20, 30), 10, 20, 20, 20);
        fair(people(20, 20, 20), 0, 20, 20, 20);
        fair(people(0, 0), 0, 0, 0);
    }

    /** "who is older .. has one more, if they do not go up" */
    static void whoIsOlderHasOneMore() {
        fair(people(10, 21), 5, 15, 16);
        fair(people(21, 10), 5, 16, 15);
        fair(people(10, 30, 21), 10, 20, 21, 20);
        fair(people(10, 31, 21), 10, 20, 21, 21);
    }

    /** "(of like ones the less number)" */
    static void ofLikeOnesTheLessNumberHasOneMore() {
        fair(people(20, 20, 21), 0, 20, 20, 21);
        fair(people(5, 20, 20, 20, 20), 12, 17, 17, 17, 17, 17);
        fair(people(6, 20, 20, 20, 20), 11, 17, 18, 17, 17, 17);
        fair(people(8, 20, 20, 20, 20), 9, 17, 18, 18, 18, 17);
    }

    /** "how many years change hands": each counts once, by who takes it. */
    static void howManyYearsChangeHands() {
        fair(people(10, 12), 1, 11, 11);
        fair(people(10, 11), 0, 10, 11);
        fair(people(11, 10), 0, 11, 10);
        fair(people(10, 13), 1, 11, 12);
        fair("ages 0 to 150;" + people(150, 0), 75, 75, 75);
    }

    /** "FAIR of a family (0 .. 3)": each of them. */
    static void fairOfFamilies0To3() {
        YearHands x = Check.town("person a age 10 coin 0 family 3;person b age 20 coin 0;person c age 30 coin 0 family 3;");
        CHECK.due("fair(0)", x.fair(0), 0);
        CHECK.lies("fair(0)", x, 20);
        CHECK.due("fair(3)", x.fair(3), 10);
        CHECK.lies("fair(3)", x, 20, 20);
    }

    /** "FAIR of a family (0 .. 3)": one that nobody is of; no years change hands, and nothing lies there. */
    static void fairOfAFamilyWithoutPeople() {
        YearHands x = Check.town(people(10, 20));
        for (int family = 1; family < 4; family++) {
            x.safest();
            CHECK.due("fair(" + family + ")", x.fair(family), 0);
            CHECK.lies("fair(" + family + ")", x);
        }
    }

    /** "NONE for another one. .. (behind NONE: nothing)" */
    static void fairOfAnotherFamilyIsNone() {
        YearHands x = Check.town(people(10, 20));
        for (int family : new int[] {4, -1, -2, Integer.MIN_VALUE, Integer.MAX_VALUE}) {
            x.safest();
            CHECK.due("fair(" + family + ")", x.fair(family), -1);
            CHECK.lies("fair(" + family + ")", x);
        }
    }

    /** "PEOPLE that are alive": the dead have no share. */
    static void theDeadHaveNoShare() {
        YearHands x = Check.town(people(10, 20, 30) + "odds 100*(age=21);");
        CHECK.due("b dies", x.year(), 1);
        CHECK.due("fair(0)", x.fair(0), 10);
        CHECK.lies("fair(0)", x, 21, 21);
    }

    /** "By all as it is now": who is older now has one more. */
    static void fairIsByAgesNow() {
        YearHands x = Check.town(people(10, 21) + "friend b to a price 0;");
        CHECK.due("fair(0)", x.fair(0), 5);
        CHECK.lies("b is older", x, 15, 16);
        x.give(1, 0, 10);
        CHECK.due("fair(0)", x.fair(0), 4);
        CHECK.lies("a is older", x, 16, 15);
    }

    /** "Ages then lie there, by its PEOPLE": eight of them. */
    static void fairOfEight() {
        fair(people(0, 1, 2, 3, 4, 5, 6, 120), 120 - 18, 17, 17, 17, 18, 18, 18, 18, 18);
    }

    // ---- ALL, promise 31

    /** "one gives all he can (down to LEAST)" */
    static void oneGivesAllDownToLeast() {
        all(TWO + "right r age>39;", 1, 1);
        all(TWO + "right r age>40;", 0);
        all("ages 10 to 60;person a age 10 coin 0;person b age 20 coin 0;friend a to b price 0;right r age>20;", 0);
        all("ages 10 to 60;person a age 11 coin 0;person b age 20 coin 0;friend a to b price 0;right r age>20;", 1, 1);
    }

    /** "(down to LEAST)": of all together, not of each. */
    static void whatIsGivenIsGone() {
        String town = "ages 10 to 60;person a age %d coin 0;person b age 20 coin 0;person c age 20 coin 0;"
            + "friend a to b price 0;friend a to c price 0;right r age>24;";
        all(town.replace("%d", "20"), 2, 1, 2);
        all(town.replace("%d", "19"), 1, 1);
        all(town.replace("%d", "15"), 1, 1);
        all(town.replace("%d", "14"), 0);
    }

    /** "to FRIENDS who do not HAVE a RIGHT": who HAS it takes none. */
    static void whoHasItTakesNone() {
        all(TWO + "right r age>19;", 0);
        all(TWO + "right r age>20;", 1, 1);
    }

    /** "one gives": the last one, too, and to the first. */
    static void theLastGivesToTheFirst() {
        YearHands x = Check.town(people(10, 15, 30) + "friend c to b price 0;friend c to a price 0;right r age>19;");
        CHECK.due("all(2, 0)", x.all(2, 0), 2);
        CHECK.lies("all(2, 0)", x, 1, 0);
    }

    /** "FRIENDS .. (straight": not by others, not the other way. */
    static void allToFriendsStraight() {
        String three = people(30, 20, 10);
        all(three + "friend a to b price 0;friend b to c price 0;right r age>20;", 1, 1);
        all(three + "friend b to a price 0;right r age=21;", 0);
        all(three + "right r age=21;", 0);
    }

    /** "; MOST at most)" */
    static void allUpToMost() {
        String town = "ages 10 to 60;person a age 30 coin 0;person b age 50 coin 0;friend a to b price 0;";
        all(town + "right r age>59;", 1, 1);
        all(town + "right r age>60;", 0);
        all(town.replace("50", "60") + "right r age>60 or age<60;", 0);
    }

    /** "how many more can HAVE it": coins, and whether he HAS it himself, are no matter. */
    static void whetherHeHasItHimselfIsNoMatter() {
        all(TWO + "right r age=21;", 1, 1);
        all(TWO + "right r age>29;", 1, 1);
    }

    /** "of each the fewest years": though he could HAVE it by more, too. */
    static void ofEachTheFewestYears() {
        String town = "ages 10 to 60;person a age 17 coin 0;person b age 20 coin 0;person c age 20 coin 0;"
            + "friend a to b price 0;friend a to c price 0;";
        all(town + "right r age=23 or age=26;", 2, 1, 2);
        all(town + "right r age=24 or age=26;", 1, 1);
    }

    /** "those of fewest years first" */
    static void thoseOfFewestYearsFirst() {
        String friends = "friend a to b price 0;friend a to c price 0;friend a to d price 0;";
        all(people(30, 15, 20, 18) + friends + "right r age>20;", 3, 2, 3, 1);
        all("ages 20 to 40;" + people(26, 35, 38, 36) + friends + "right r age>39;", 2, 2, 3);
    }

    /** "of like ones by number" */
    static void ofLikeOnesByNumber() {
        String friends = "friend a to d price 0;friend a to c price 0;friend a to b price 0;";
        all(people(30, 15, 15, 15) + friends + "right r age>20;", 3, 1, 2, 3);
        all("ages 20 to 40;" + people(25, 38, 38, 38) + friends + "right r age>39;", 2, 1, 2);
    }

    /** "how many": seven others are all. */
    static void allSevenOthers() {
        StringBuilder text = new StringBuilder("ages 0 to 150;" + people(28, 10, 9, 8, 7, 6, 5, 4));
        for (char p = 'b'; p <= 'h'; p++) {
            text.append("friend a to ").append(p).append(" price 99;");
        }
        all(text + "right r age>10;", 7, 1, 2, 3, 4, 5, 6, 7);
        all(text.toString().replace("28", "27") + "right r age>10;", 6, 1, 2, 3, 4, 5, 6);
    }

    /** "all he can": more than one GIFT can be. */
    static void allIsNotBoundToOneGift() {
        all("ages 0 to 150;person a age 150 coin 0;person b age 0 coin 0;friend a to b price 0;right r age>99;", 1, 1);
        all("ages 0 to 150;person a age 150 coin 0;person b age 0 coin 0;friend a to b price 0;right r age>149;", 1, 1);
    }

    /** "NONE if one can't be": nobody, no RIGHT. "(behind NONE: nothing)" */
    static void allOfNobodyOrNoRightIsNone() {
        YearHands x = Check.town(TWO + "right r age>20;");
        for (int number : FAR_OFF) {
            x.all(0, 0);
            CHECK.due("all(" + number + ", 0)", x.all(number, 0), -1);
            CHECK.lies("all(" + number + ", 0)", x);
            x.all(0, 0);
            CHECK.due("all(0, " + number + ")", x.all(0, number), -1);
            CHECK.lies("all(0, " + number + ")", x);
        }
        CHECK.due("all(2, 0)", x.all(2, 0), -1);
        CHECK.due("all(0, 1)", x.all(0, 1), -1);
        CHECK.due("all(0, 6)", x.all(0, 6), -1);
    }

    /** "or he is dead" */
    static void allOfTheDeadIsNone() {
        YearHands x = Check.town(TWO + "right r age>25;odds 100*(age=31);");
        x.all(0, 0);
        CHECK.due("a dies", x.year(), 1);
        CHECK.due("all(0, 0)", x.all(0, 0), -1);
        CHECK.lies("all(0, 0)", x);
    }

    /** "PEOPLE that are alive": nothing is given to the dead. */
    static void nothingIsGivenToTheDead() {
        YearHands x = Check.town(people(30, 20, 10) + "friend a to b price 0;friend a to c price 0;right r age>25;odds 100*(age=21);");
        CHECK.due("b dies", x.year(), 1);
        CHECK.due("all(0, 0)", x.all(0, 0), 1);
        CHECK.lies("all(0, 0)", x, 2);
    }

    /** "By all as it is now": ages behind ACTS. */
    static void allIsByAgesNow() {
        YearHands x = Check.town(TWO.replace("price 99", "price 0") + "right r age=41;");
        CHECK.due("twenty years are all that a has", x.all(0, 0), 0);
        x.year();
        CHECK.due("a YEAR later", x.all(0, 0), 1);
        x.give(0, 1, 11);
        CHECK.due("9 of 20 to who is 32", x.all(0, 0), 1);
        x.give(0, 1, 9);
        CHECK.due("he has it", x.all(0, 0), 0);
        x.give(0, 1, 1);
        CHECK.due("he is too old", x.all(0, 0), 0);
        x.undo();
        x.undo();
        x.undo();
        x.undo();
        x.give(0, 1, 15);
        CHECK.due("a has 5 of 20, b lacks 6", x.all(0, 0), 0);
    }

    /** "nothing is done" by TWICE, FAIR, ALL. */
    static void nothingIsDone() {
        YearHands x = Check.town(TWO + "right r age>20;");
        x.twice(0);
        x.fair(0);
        x.all(0, 0);
        CHECK.due("a", x.person(0, 0), 30);
        CHECK.due("b", x.person(1, 0), 20);
        CHECK.due("ACTS", x.about(10), 0);
    }

    // ---- promise 32

    /** "The i-th number of what lies there": from 0 on. */
    static void liesFrom0() {
        YearHands x = Check.town(people(10, 20, 33));
        x.safest();
        CHECK.due("lies(0)", x.lies(0), 0);
        CHECK.due("lies(1)", x.lies(1), 0);
        CHECK.due("lies(2)", x.lies(2), 63);
    }

    /** "GAP if there is none such." */
    static void liesOfNoneSuchIsGap() {
        YearHands x = Check.town(people(10, 20, 33));
        CHECK.due("lies(0) of nothing", x.lies(0), YearHands.GAP);
        x.safest();
        CHECK.due("lies(3)", x.lies(3), YearHands.GAP);
        CHECK.due("lies(8)", x.lies(8), YearHands.GAP);
        for (int i : FAR_OFF) {
            CHECK.due("lies(" + i + ")", x.lies(i), YearHands.GAP);
        }
    }

    /** "what lies there": of the latest call that lays; fewer numbers leave none of more before. */
    static void whatLiesThereIsOfTheLatest() {
        YearHands x = Check.town(people(10, 20, 33) + "friend a to b price 0;right r age<11 or age>20;");
        x.safest();
        x.twice(0);
        CHECK.lies("twice(0)", x, 0, 1, 1);
        x.all(0, 0);
        CHECK.lies("all(0, 0)", x, 1);
        x.fair(0);
        CHECK.lies("fair(0)", x, 21, 21, 21);
        x.year();
        x.give(0, 1, 1);
        x.undo();
        x.image(0);
        x.sure(0, 0);
        x.forged(0);
        x.reach(0, 0, 0);
        CHECK.lies("calls that lay nothing", x, 21, 21, 21);
        x.explained(0);
        CHECK.lies("explained(0), without GIFTS", x);
    }
}
