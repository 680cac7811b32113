/** FACES, promises 33 to 38: each sentence that names a boundary case has one test, named after it. */
public final class FacesBoundsTest {
    private static final Check CHECK = new Check("FacesBoundsTest");
    private static final int[] FAR_OFF = {-1, Integer.MIN_VALUE, Integer.MAX_VALUE};
    private static final String THREE = "ages 10 to 60;person a age 30 coin 0;person b age 20 coin 0;person c age 40 coin 0;";
    private static final String FOUR = THREE + "person d age 50 coin 0;";
    /** Years go from a to b, from b to c, from a to c. */
    private static final String TOWN = THREE + "friend a to b price 99;friend b to c price 99;friend a to c price 99;";

    public static void main(String[] args) {
        CHECK.runAll(FacesBoundsTest.class);
    }

    /** A TOWN with FACES, as pairs of a PERSON and an age. */
    private static YearHands faces(String town, int... pairs) {
        YearHands x = Check.town(town);
        for (int i = 0; i < pairs.length; i += 2) {
            CHECK.due("face(" + pairs[i] + ", " + pairs[i + 1] + ")", x.face(pairs[i], pairs[i + 1]), i / 2);
        }
        return x;
    }

    // ---- promise 33

    /** "A FACE: its number": from 0 on. */
    static void facesAreNumberedFrom0() {
        YearHands x = Check.town(TOWN);
        CHECK.due("the first", x.face(2, 40), 0);
        CHECK.due("one that can't be", x.face(2, 61), -1);
        CHECK.due("the second", x.face(2, 40), 1);
    }

    /** "one looks so old (LEAST .. MOST)": these two. */
    static void aFaceIsFromLeastToMost() {
        YearHands x = Check.town(TOWN);
        CHECK.due("LEAST", x.face(0, 10), 0);
        CHECK.due("MOST", x.face(0, 60), 1);
    }

    /** "NONE, doing nothing, if one can't be": an age beside LEAST, MOST. */
    static void aFaceOfAnotherAgeIsNone() {
        YearHands x = Check.town(TOWN);
        CHECK.due("below LEAST", x.face(0, 9), -1);
        CHECK.due("above MOST", x.face(0, 61), -1);
        for (int age : FAR_OFF) {
            CHECK.due("face(0, " + age + ")", x.face(0, age), -1);
        }
        CHECK.due("about(13)", x.about(13), 0);
    }

    /** "NONE, doing nothing, if one can't be": nobody. */
    static void aFaceOfNobodyIsNone() {
        YearHands x = Check.town(TOWN);
        for (int person : FAR_OFF) {
            CHECK.due("face(" + person + ", 30)", x.face(person, 30), -1);
        }
        CHECK.due("face(3, 30)", x.face(3, 30), -1);
        CHECK.due("face(8, 30)", x.face(8, 30), -1);
        CHECK.due("about(13)", x.about(13), 0);
    }

    /** "NONE, doing nothing, .. or there are 30": thirty can be, those that are UNTOLD are among them. */
    static void thirtyFacesAtMost() {
        YearHands x = Check.town(TOWN);
        for (int i = 0; i < 29; i++) {
            x.face(0, 30);
        }
        CHECK.due("the thirtieth", x.face(1, 21), 29);
        CHECK.due("the thirty-first", x.face(2, 41), -1);
        CHECK.due("about(13)", x.about(13), 30);
        CHECK.due("the thirtieth counts", x.forged(0), 2);
        x.untell(0);
        CHECK.due("one is UNTOLD", x.face(2, 41), -1);
        CHECK.due("about(13)", x.about(13), 30);
        CHECK.due("untell(29)", x.untell(29), true);
        CHECK.due("the thirtieth counts no more", x.forged(0), 0);
    }

    // ---- promise 34

    /** "It is UNTOLD: true; false if it is so already" */
    static void untellAgainIsFalse() {
        YearHands x = faces(TOWN, 0, 29, 1, 20);
        CHECK.due("untell(0)", x.untell(0), true);
        CHECK.due("untell(0) again", x.untell(0), false);
        x.later(5);
        CHECK.due("untell(0) later", x.untell(0), false);
        CHECK.due("untell(1)", x.untell(1), true);
    }

    /** "It is UNTOLD": when it was so first, though one tries again later. */
    static void untellAgainDoesNotMoveIt() {
        YearHands x = faces(TOWN, 0, 29);
        x.later(5);
        x.untell(0);
        x.later(5);
        x.untell(0);
        CHECK.due("at 4", x.forged(4), 1);
        CHECK.due("at 5", x.forged(5), 0);
        CHECK.due("at 9", x.forged(9), 0);
    }

    /** "false if .. there is none such" */
    static void untellOfNoSuchFaceIsFalse() {
        YearHands x = Check.town(TOWN);
        CHECK.due("untell(0) without FACES", x.untell(0), false);
        x.face(0, 29);
        CHECK.due("untell(1)", x.untell(1), false);
        CHECK.due("untell(30)", x.untell(30), false);
        for (int face : FAR_OFF) {
            CHECK.due("untell(" + face + ")", x.untell(face), false);
        }
        CHECK.due("it counts still", x.forged(0), 1);
    }

    // ---- promise 35

    /** "So much later (0 .. 1000): the TIME": both ends. */
    static void laterBy0To1000() {
        YearHands x = new YearHands();
        CHECK.due("later(0)", x.later(0), 0);
        CHECK.due("later(1)", x.later(1), 1);
        CHECK.due("later(1000)", x.later(1000), 1001);
        CHECK.due("later(0)", x.later(0), 1001);
        CHECK.due("about(14)", x.about(14), 1001);
    }

    /** "NONE, doing nothing, for another number" */
    static void laterByAnotherNumberIsNone() {
        YearHands x = new YearHands();
        x.later(7);
        for (int by : new int[] {1001, -1, Integer.MIN_VALUE, Integer.MAX_VALUE}) {
            CHECK.due("later(" + by + ")", x.later(by), -1);
        }
        CHECK.due("about(14)", x.about(14), 7);
    }

    /** "NONE, doing nothing, .. if it would be above 100,000": 100,000 may be. */
    static void theTimeIs100000AtMost() {
        YearHands x = new YearHands();
        for (int i = 1; i < 100; i++) {
            CHECK.due("later " + i, x.later(1000), 1000 * i);
        }
        CHECK.due("up to 99,001", x.later(1), 99001);
        CHECK.due("above by one", x.later(1000), -1);
        CHECK.due("about(14)", x.about(14), 99001);
        CHECK.due("100,000", x.later(999), 100000);
        CHECK.due("above", x.later(1), -1);
        CHECK.due("no later", x.later(0), 100000);
        CHECK.due("about(14)", x.about(14), 100000);
    }

    // ---- what counts at a TIME

    /** "TOLD at a TIME (0 at first, ..)" */
    static void theTimeIs0AtFirst() {
        YearHands x = faces(TOWN, 0, 29);
        CHECK.due("about(14)", x.about(14), 0);
        CHECK.due("at 0", x.forged(0), 1);
        CHECK.due("at -1", x.forged(-1), 0);
    }

    /** "As known at k those count that were TOLD at k or before" */
    static void thoseToldAtKOrBeforeCount() {
        YearHands x = Check.town(TOWN);
        x.later(5);
        x.face(0, 29);
        CHECK.due("before", x.forged(4), 0);
        CHECK.due("at k", x.forged(5), 1);
        CHECK.due("later", x.forged(6), 1);
        CHECK.due("far before", x.forged(Integer.MIN_VALUE), 0);
        CHECK.due("much later", x.forged(Integer.MAX_VALUE), 1);
    }

    /** "not UNTOLD at k or before" */
    static void thoseUntoldAtKOrBeforeDoNot() {
        YearHands x = faces(TOWN, 0, 29);
        x.later(5);
        x.untell(0);
        CHECK.due("before", x.forged(4), 1);
        CHECK.due("at k", x.forged(5), 0);
        CHECK.due("later", x.forged(6), 0);
        CHECK.due("much later", x.forged(Integer.MAX_VALUE), 0);
    }

    /** "UNTOLD at a later one or the same": at the same it never counts. */
    static void untoldAtTheSameTime() {
        YearHands x = Check.town(TOWN);
        x.later(5);
        x.face(0, 29);
        x.untell(0);
        for (int k = 4; k < 7; k++) {
            CHECK.due("at " + k, x.forged(k), 0);
        }
        CHECK.due("explained(5)", x.explained(5), 1 + 27 + 3 * 81);
    }

    /** "As known at k": so also EXPLAINED and SURE. */
    static void explainedAndSureAreAsKnownAtK() {
        YearHands x = Check.town(TOWN);
        x.later(5);
        x.face(1, 60);
        x.later(5);
        x.untell(0);
        CHECK.due("explained(4)", x.explained(4), 1 + 27 + 3 * 81);
        CHECK.due("explained(5)", x.explained(5), 0);
        CHECK.due("explained(9)", x.explained(9), 0);
        CHECK.due("explained(10)", x.explained(10), 1 + 27 + 3 * 81);
        CHECK.due("sure(0, 4)", x.sure(0, 4), -2);
        CHECK.due("sure(0, 5)", x.sure(0, 5), -1);
        CHECK.due("sure(0, 10)", x.sure(0, 10), -2);
    }

    /** "behind some GIFTS, in the beginning": ACTS, YEARS, deaths are no matter. */
    static void facesAreOfTheBeginning() {
        YearHands x = faces(TOWN + "odds 100;", 0, 28);
        int before = x.explained(0);
        CHECK.due("all die", x.year(), 3);
        CHECK.due("explained(0)", x.explained(0), before);
        CHECK.due("sure(0, 0)", x.sure(0, 0), 28);
        CHECK.due("forged(0)", x.forged(0), 1);
        CHECK.due("a FACE of the dead", x.face(1, 20), 1);
        CHECK.due("he was so, though he is not", x.forged(0), 1);
        x.undo();
        CHECK.due("FACES are not undone", x.about(13), 2);
        CHECK.due("forged(0)", x.forged(0), 1);
    }

    // ---- EXPLAINED, promise 36

    /** "EXPLAINED: no GIFTS": that is one way, and nothing lies there. */
    static void explainedByNoGifts() {
        YearHands x = faces(TOWN, 0, 30, 1, 20, 2, 40);
        CHECK.due("as told", x.explained(0), 1);
        CHECK.lies("as told", x);
    }

    /** "no GIFTS, one, or two": without FACES all are. */
    static void explainedWithoutFaces() {
        YearHands x = Check.town(TOWN);
        CHECK.due("three FRIENDS", x.explained(0), 1 + 3 * 9 + 3 * 81);
        CHECK.lies("three FRIENDS", x);
        CHECK.due("without FRIENDS", Check.town(THREE).explained(0), 1);
        CHECK.due("one alone", Check.town(THREE + "friend a to b price 1;").explained(0), 1 + 9);
        CHECK.due("two", Check.town(THREE + "friend a to b price 1;friend b to a price 1;").explained(0), 1 + 18 + 81);
    }

    /** "no GIFTS, one, or two": by the most FRIENDS. */
    static void explainedByTwentyFriends() {
        StringBuilder text = new StringBuilder();
        for (char p = 'a'; p < 'f'; p++) {
            text.append("person ").append(p).append(" age 50 coin 0;");
        }
        for (char p = 'a'; p < 'f'; p++) {
            for (char q = 'a'; q < 'f'; q++) {
                text.append(p == q ? "" : "friend " + p + " to " + q + " price 0;");
            }
        }
        YearHands x = Check.town(text.toString());
        CHECK.due("explained(0)", x.explained(0), 1 + 20 * 9 + 190 * 81);
        x = faces(text.toString(), 4, 41, 3, 59, 2, 50, 1, 50, 0, 50);
        // By e to d, or by a, b, c: nine years to him and nine on.
        CHECK.due("from e to d", x.explained(0), 1 + 3);
        CHECK.lies("from e to d", x, 19, 9);
    }

    /** "no GIFTS, one, or two": not three. */
    static void notByThreeGifts() {
        YearHands x = faces(FOUR + "friend a to b price 0;friend b to c price 0;friend c to d price 0;",
            0, 29, 1, 19, 2, 39, 3, 53);
        CHECK.due("three would do", x.explained(0), 0);
        CHECK.lies("three would do", x);
        CHECK.due("sure(0, 0)", x.sure(0, 0), -1);
    }

    /** "two (by FRIENDS, the other ones of a greater number)": not the same FRIENDS twice. */
    static void notByTheSameFriendsTwice() {
        YearHands x = faces(THREE + "friend a to b price 0;", 0, 20);
        CHECK.due("ten years by one", x.explained(0), 0);
        x = faces(THREE + "friend a to b price 0;friend a to c price 0;", 0, 20);
        CHECK.due("ten years by two", x.explained(0), 9);
    }

    /** "the other ones of a greater number": two FRIENDS in both orders are one way. */
    static void twoGiftsInOneOrderAlone() {
        YearHands x = faces(TOWN, 0, 29, 1, 20, 2, 41);
        // By a to c 1, or by a to b 1 and b to c 1.
        CHECK.due("explained(0)", x.explained(0), 2);
        x = faces(TOWN, 0, 28, 1, 21, 2, 41);
        CHECK.due("a to b and a to c, a to b and b to c", x.explained(0), 2);
        CHECK.lies("the first", x, 0, 1, 2, 1);
    }

    /** "each of 1 to 9 years": one. */
    static void eachGiftIsOf1YearAtLeast() {
        YearHands x = faces(THREE + "friend a to b price 0;friend a to c price 0;", 0, 29);
        CHECK.due("by one or the other, not both", x.explained(0), 2);
        CHECK.lies("the first", x, 0, 1);
    }

    /** "each of 1 to 9 years": nine. */
    static void eachGiftIsOf9YearsAtMost() {
        YearHands x = faces(THREE + "friend a to b price 0;", 0, 21);
        CHECK.due("nine", x.explained(0), 1);
        CHECK.lies("nine", x, 0, 9);
        CHECK.due("ten", faces(THREE + "friend a to b price 0;", 0, 20).explained(0), 0);
        x = faces(THREE + "friend a to b price 0;friend a to c price 0;", 0, 12);
        CHECK.due("nine and nine", x.explained(0), 1);
        CHECK.lies("nine and nine", x, 0, 9, 1, 9);
        CHECK.due("nineteen", faces(THREE + "friend a to b price 0;friend a to c price 0;", 0, 11).explained(0), 0);
    }

    /** "(no matter prices, coins, ..": nobody has a coin, each price is 99. */
    static void explainedNoMatterPricesAndCoins() {
        CHECK.due("without coins", faces(THREE + "friend a to b price 99;", 1, 29).explained(0), 1);
    }

    /** "(no matter .. LEAST": one may be below it. */
    static void explainedNoMatterLeast() {
        YearHands x = faces("ages 10 to 60;person a age 10 coin 0;person b age 20 coin 0;friend a to b price 0;", 1, 29);
        CHECK.due("explained(0)", x.explained(0), 1);
        CHECK.due("sure(0, 0)", x.sure(0, 0), 1);
        x = faces("person a age 0 coin 0;person b age 20 coin 0;friend a to b price 0;", 1, 29);
        CHECK.due("explained(0)", x.explained(0), 1);
        CHECK.due("below 0", x.sure(0, 0), -9);
    }

    /** "(no matter .. MOST": one may be above it. */
    static void explainedNoMatterMost() {
        YearHands x = faces("ages 10 to 60;person a age 30 coin 0;person b age 60 coin 0;friend a to b price 0;", 0, 21);
        CHECK.due("explained(0)", x.explained(0), 1);
        CHECK.due("sure(1, 0)", x.sure(1, 0), 69);
        x = faces("ages 0 to 150;person a age 150 coin 0;person b age 150 coin 0;person c age 9 coin 0;"
            + "friend a to b price 0;friend c to b price 0;", 0, 141, 2, 0);
        CHECK.due("by two", x.explained(0), 1);
        CHECK.due("above 150", x.sure(1, 0), 168);
    }

    /** "so that from ages as told": not from those that are now. */
    static void explainedFromAgesAsTold() {
        YearHands x = Check.town(TOWN.replace("coin 0", "coin 500"));
        x.give(0, 1, 5);
        x.face(0, 30);
        x.face(1, 20);
        x.face(2, 40);
        CHECK.due("as told", x.explained(0), 1);
    }

    /** "all FACES that count are so": two unlike ones of one can't be. */
    static void allFacesThatCountAreSo() {
        YearHands x = faces(TOWN, 0, 28, 0, 28);
        CHECK.due("two like ones", x.explained(0) > 0, true);
        x = faces(TOWN, 0, 28, 0, 27);
        CHECK.due("two unlike ones", x.explained(0), 0);
        CHECK.due("in the other order", faces(TOWN, 0, 27, 0, 28).explained(0), 0);
        CHECK.due("one as told", faces(TOWN, 0, 30, 0, 28).explained(0), 0);
        CHECK.due("another one behind", faces(TOWN, 0, 30, 0, 28, 1, 22).explained(0), 0);
        x.untell(1);
        CHECK.due("one of both", x.explained(0) > 0, true);
    }

    /** "the first (fewer GIFTS first": one of late FRIENDS ahead of two of early ones. */
    static void fewerGiftsFirst() {
        YearHands x = faces(TOWN, 0, 29, 2, 41);
        // By a to c; by a to b and b to c.
        CHECK.due("explained(0)", x.explained(0), 2);
        CHECK.lies("one", x, 2, 1);
    }

    /** "then by FRIENDS": the least number of the first ones, though it has more years. */
    static void thenByFriends() {
        YearHands x = faces(TOWN, 0, 28);
        x.explained(0);
        CHECK.lies("a to b, not a to c", x, 0, 2);
        x = faces(FOUR + "friend a to c price 0;friend b to c price 0;friend a to d price 0;", 0, 27, 1, 19);
        CHECK.due("a to c and b to c, b to c and a to d", x.explained(0), 2);
        CHECK.lies("a to c first", x, 0, 3, 1, 1);
    }

    /** "years": of the first FRIENDS the fewest, though the other FRIENDS are of a greater number. */
    static void thenByYears() {
        YearHands x = faces(TOWN, 0, 15);
        CHECK.due("fifteen years", x.explained(0), 4);
        CHECK.lies("6 and 9", x, 0, 6, 2, 9);
        x = faces(FOUR + "friend a to b price 0;friend b to d price 0;friend a to d price 0;", 1, 22, 3, 51);
        CHECK.due("a to b and b to d, a to b and a to d", x.explained(0), 2);
        CHECK.lies("2 first", x, 0, 2, 2, 1);
    }

    /** "the other FRIENDS of a greater number": the least of them first. */
    static void thenByTheOtherFriends() {
        YearHands x = faces(FOUR + "friend a to b price 0;friend a to c price 0;friend a to d price 0;", 0, 20, 1, 21);
        CHECK.due("1 to b, 9 to c or d", x.explained(0), 2);
        CHECK.lies("to c", x, 0, 1, 1, 9);
    }

    /** "their years": they lie there last. */
    static void thenTheirYears() {
        YearHands x = faces(FOUR + "friend a to b price 0;friend b to c price 0;friend c to b price 0;", 0, 29, 1, 24);
        CHECK.due("a to b 1, c to b 3", x.explained(0), 1);
        CHECK.lies("a to b 1, c to b 3", x, 0, 1, 2, 3);
    }

    /** "The first lies there then, as FRIENDS, years, of one GIFT, of two": two numbers, or four. */
    static void twoNumbersOrFourLieThere() {
        YearHands x = faces(TOWN, 0, 29, 1, 21);
        x.explained(0);
        CHECK.lies("one", x, 0, 1);
        x = faces(TOWN, 0, 29, 1, 20, 2, 41);
        x.explained(0);
        CHECK.lies("one of the third FRIENDS", x, 2, 1);
        x = faces(TOWN, 0, 27, 1, 21, 2, 42);
        x.explained(0);
        CHECK.lies("two", x, 0, 1, 2, 2);
    }

    /** "(behind 0, or without GIFTS: nothing)" */
    static void nothingLiesBehind0OrWithoutGifts() {
        YearHands x = faces(TOWN, 0, 60);
        x.safest();
        CHECK.due("none", x.explained(0), 0);
        CHECK.lies("behind 0", x);
        x.safest();
        CHECK.due("before all", x.explained(-1), 1 + 27 + 3 * 81);
        CHECK.lies("without GIFTS", x);
        x = faces(TOWN, 0, 29);
        x.explained(0);
        CHECK.lies("by one", x, 0, 1);
        x.face(0, 28);
        CHECK.due("two unlike FACES", x.explained(0), 0);
        CHECK.lies("behind 0, numbers before", x);
        x.untell(1);
        x.explained(0);
        x.face(1, 60);
        CHECK.due("what can't be", x.explained(0), 0);
        CHECK.lies("behind 0, numbers before", x);
    }

    // ---- SURE, promise 37

    /** "SURE of one: his age by all of them" */
    static void sureOfOneByAllOfThem() {
        YearHands x = faces(TOWN, 0, 28, 1, 20);
        // By a to c 2; by a to b 2 and b to c 2.
        CHECK.due("explained(0)", x.explained(0), 2);
        CHECK.due("sure(0, 0)", x.sure(0, 0), 28);
        CHECK.due("sure(1, 0)", x.sure(1, 0), 20);
        CHECK.due("sure(2, 0), who has no FACE", x.sure(2, 0), 42);
    }

    /** "-2 if it is not the same in all": though it is in all but one. */
    static void notSureIfItIsNotTheSameInAll() {
        YearHands x = faces(FOUR + "friend a to b price 0;friend a to c price 0;", 0, 29);
        CHECK.due("two ways", x.explained(0), 2);
        CHECK.due("sure(1, 0)", x.sure(1, 0), -2);
        CHECK.due("sure(2, 0)", x.sure(2, 0), -2);
        CHECK.due("sure(3, 0)", x.sure(3, 0), 50);
        x = faces(TOWN, 0, 30);
        CHECK.due("by none or b to c", x.explained(0), 1 + 9);
        CHECK.due("sure(2, 0)", x.sure(2, 0), -2);
        x = faces(FOUR + "friend a to b price 0;friend a to c price 0;friend a to d price 0;", 0, 29);
        CHECK.due("21, 20, 20", x.sure(1, 0), -2);
        CHECK.due("40, 41, 40", x.sure(2, 0), -2);
        CHECK.due("50, 50, 51", x.sure(3, 0), -2);
        x = faces(TOWN, 0, 30);
        CHECK.due("sure(1, 0)", x.sure(1, 0), -2);
        CHECK.due("sure(0, 0)", x.sure(0, 0), 30);
    }

    /** "not the same in all": the first and the last of them are, one between is not. */
    static void notSureByOneBetween() {
        // By c to a 1; by c to a 2 .. 9 and a to b as many less 1; by a to c 1 .. 8 and c to a: b is 20 in the first, the last.
        YearHands x = faces(THREE + "friend c to a price 0;friend a to b price 0;friend a to c price 0;", 0, 31);
        CHECK.due("explained(0)", x.explained(0), 1 + 8 + 8);
        CHECK.lies("the first", x, 0, 1);
        CHECK.due("sure(1, 0)", x.sure(1, 0), -2);
        CHECK.due("sure(0, 0)", x.sure(0, 0), 31);
    }

    /** "NONE if there are none" */
    static void sureIsNoneIfThereAreNone() {
        YearHands x = faces(TOWN, 0, 31);
        CHECK.due("explained(0)", x.explained(0), 0);
        for (int p = 0; p < 3; p++) {
            CHECK.due("sure(" + p + ", 0)", x.sure(p, 0), -1);
        }
        x = faces(TOWN, 0, 29, 0, 28);
        CHECK.due("two unlike FACES", x.sure(1, 0), -1);
    }

    /** "or no such PERSON" */
    static void sureOfNobodyIsNone() {
        YearHands x = Check.town(TOWN);
        CHECK.due("sure(3, 0)", x.sure(3, 0), -1);
        CHECK.due("sure(8, 0)", x.sure(8, 0), -1);
        for (int person : FAR_OFF) {
            CHECK.due("sure(" + person + ", 0)", x.sure(person, 0), -1);
        }
    }

    /** "his age by all of them": by no GIFTS alone it is the one that was told. */
    static void sureWithoutFriends() {
        YearHands x = Check.town(THREE);
        CHECK.due("sure(2, 0)", x.sure(2, 0), 40);
        x.face(0, 31);
        CHECK.due("none", x.sure(2, 0), -1);
    }

    /** "SURE" lays nothing down. */
    static void sureLaysNothingDown() {
        YearHands x = faces(TOWN, 0, 29);
        x.safest();
        x.sure(0, 0);
        x.forged(0);
        CHECK.due("about(17)", x.about(17), 3);
    }

    // ---- FORGED, promise 38

    /** "FORGED, as bits (0, if all are so as told)" */
    static void forgedIs0IfAllAreSoAsTold() {
        CHECK.due("without FACES", Check.town(TOWN).forged(0), 0);
        CHECK.due("one as told", faces(TOWN, 1, 20).forged(0), 0);
        CHECK.due("all as told", faces(TOWN, 0, 30, 1, 20, 2, 40).forged(0), 0);
    }

    /** "PEOPLE by each of whom alone": one with another age, as a bit. */
    static void forgedByOneAlone() {
        CHECK.due("a", faces(TOWN, 0, 29).forged(0), 1);
        CHECK.due("b", faces(TOWN, 1, 21).forged(0), 2);
        CHECK.due("c, others as told", faces(TOWN, 0, 30, 1, 20, 2, 60).forged(0), 4);
        CHECK.due("c, by two like FACES", faces(TOWN, 2, 10, 2, 10).forged(0), 4);
    }

    /** "alone": two who are of other ages are none. */
    static void notForgedByTwo() {
        CHECK.due("a and b", faces(TOWN, 0, 29, 1, 21).forged(0), 0);
        CHECK.due("all", faces(TOWN, 0, 29, 1, 21, 2, 41).forged(0), 0);
    }

    /** "all FACES that count would be so": two unlike ones of one would not. */
    static void notForgedByUnlikeFaces() {
        CHECK.due("two ages", faces(TOWN, 0, 29, 0, 28).forged(0), 0);
        CHECK.due("one as told", faces(TOWN, 0, 30, 0, 28).forged(0), 0);
        CHECK.due("one as told, behind", faces(TOWN, 0, 28, 0, 30).forged(0), 0);
        CHECK.due("another one besides", faces(TOWN, 0, 28, 0, 30, 1, 20).forged(0), 0);
        CHECK.due("another one behind", faces(TOWN, 0, 30, 0, 28, 1, 20).forged(0), 0);
        CHECK.due("a like one behind", faces(TOWN, 0, 30, 0, 28, 0, 28).forged(0), 0);
    }

    /** "without GIFTS": though some would explain it. */
    static void forgedIsWithoutGifts() {
        YearHands x = faces(TOWN, 0, 29, 1, 21);
        CHECK.due("explained(0)", x.explained(0) > 0, true);
        CHECK.due("forged(0)", x.forged(0), 0);
        CHECK.due("though none explain it", faces(TOWN, 0, 31).forged(0), 1);
    }

    /** "as bits": the eighth is 128. */
    static void forgedByTheEighth() {
        StringBuilder text = new StringBuilder();
        for (char p = 'a'; p <= 'h'; p++) {
            text.append("person ").append(p).append(" age 50 coin 0;");
        }
        CHECK.due("h", faces(text.toString(), 7, 0, 0, 50).forged(0), 128);
    }
}
