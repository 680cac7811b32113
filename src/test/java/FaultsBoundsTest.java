/** The Terms' sentences on FAULTS that name a boundary case: one test for each, named after it. */
public final class FaultsBoundsTest {
    private static final Check CHECK = new Check("FaultsBoundsTest");
    private static final String TWO = "person a age 10 coin 20;person b age 10 coin 20;";
    private static final String THIRTY = "1" + "+1".repeat(29);

    public static void main(String[] args) {
        CHECK.runAll(FaultsBoundsTest.class);
    }

    /** "FAULTS, the first by its place": whatever stands behind it, and of whatever number that is. */
    static void theFirstByItsPlace() {
        CHECK.badBehind("draw ", "1000;!", 4);
        CHECK.badBehind("draw ", "1000;;", 4);
        CHECK.badBehind("person a age 1 coin 1;person ", "a age 999 coin 1;", 3);
        CHECK.badBehind(TWO + "friend ", "c to a price 100;", 5);
        CHECK.badBehind(TWO + "friend a to ", "a price 100;", 3);
        CHECK.badBehind("ages ", "200 to 100;", 4);
        CHECK.badBehind("person a age ", "121 coin 1000 need 121 family 4;", 4);
        CHECK.badBehind("person a age 1 coin ", "1000 need 121 family 4;", 4);
        CHECK.badBehind("person a age 1 coin 1 need ", "121 family 4;", 4);
    }

    /** "its place (bytes from 0 ..)": a FAULT of the first byte, blanks count. */
    static void placesAreBytesFrom0() {
        CHECK.bad("!", 1, 0);
        CHECK.bad(";", 2, 0);
        CHECK.bad(" \n;", 2, 2);
        CHECK.bad(" \n!", 1, 2);
    }

    /** "(..; the end: the text's length)": blanks at the end are of the text. */
    static void theEndsPlaceIsTheTextsLength() {
        CHECK.bad("draw", 2, 4);
        CHECK.bad("draw ", 2, 5);
        CHECK.bad("draw 7", 2, 6);
        CHECK.bad("draw 7 \n ", 2, 9);
        CHECK.bad("right x (1 or", 2, 13);
        CHECK.bad("person a age 1 coin 1 need", 2, 26);
        CHECK.bad("person", 2, 6);
        CHECK.bad("friend", 2, 6);
        CHECK.bad("right", 2, 5);
        CHECK.bad("odds", 2, 4);
        CHECK.bad("ages", 2, 4);
        CHECK.bad("right x not", 2, 11);
    }

    /** "at one place the least": what is no TOKEN is 1, whatever else could be said there. */
    static void atOnePlaceTheLeast() {
        CHECK.badBehind("draw ", "10000;", 1);
        CHECK.badBehind("draw ", "!;", 1);
        CHECK.bad("!", 1, 0);
        CHECK.badBehind("draw 7;", "drawdrawd", 1);
        CHECK.badBehind("right x " + THIRTY + "+", "1a;", 1);
        CHECK.badBehind("right x (((((((", "!;", 1);
        CHECK.badBehind(TWO + "friend ", "abcdefghi to a price 1;", 1);
        CHECK.badBehind(TWO + "friend a to ", "abcdefghi price 1;", 1);
        CHECK.badBehind("person ", "abcdefghi age 1 coin 1;", 1);
    }

    /** "at one place the least": what can't stand there is 2, though it could be 4 or 5 elsewhere. */
    static void whatCantStandIs2BeforeAllElse() {
        CHECK.badBehind("draw 7 ", "1000;", 2);
        CHECK.badBehind(TWO + "friend ", "100 to b price 1;", 2);
        CHECK.badBehind(TWO + "friend a to b ", "c 100;", 2);
        CHECK.badBehind("person ", "1000 age 1 coin 1;", 2);
    }

    /** "1 no TOKEN": also where a line could begin, end, or is too many. */
    static void fault1IsNoToken() {
        CHECK.badBehind("draw 7;", "#", 1);
        CHECK.badBehind("draw 7", "#;", 1);
        CHECK.badBehind("right x 1 ", "#", 1);
    }

    /** "2 one that can't stand there": a word, a NAME, a number, a sign, the end. */
    static void fault2IsOneThatCantStandThere() {
        CHECK.bad("to", 2, 0);
        CHECK.bad("x", 2, 0);
        CHECK.bad("7", 2, 0);
        CHECK.bad("+", 2, 0);
        CHECK.badBehind("draw ", "age;", 2);
        CHECK.badBehind("draw ", "x;", 2);
        CHECK.badBehind("draw ", "+7;", 2);
        CHECK.badBehind("draw", "", 2);
    }

    /** "one of a sort too many .. at the line's first word": not where its line goes on. */
    static void oneOfASortTooManyIsAtTheLinesFirstWord() {
        StringBuilder people = new StringBuilder();
        StringBuilder rights = new StringBuilder();
        for (char name = 'a'; name < 'i'; name++) {
            people.append("person ").append(name).append(" age 1 coin 1;");
            rights.append(name < 'g' ? "right " + name + " 1;" : "");
        }
        StringBuilder friends = new StringBuilder(people);
        for (int i = 0; i < 20; i++) {
            friends.append("friend ").append((char) ('a' + i / 7)).append(" to ");
            friends.append((char) ('a' + i % 7 + (i % 7 >= i / 7 ? 1 : 0))).append(" price 1;");
        }
        CHECK.badBehind(people.toString(), "person a age 999 coin 1;", 2);
        CHECK.badBehind(people.toString(), "person", 2);
        CHECK.badBehind(people.toString(), "person!", 2);
        CHECK.badBehind(friends.toString(), "friend a to a price 100;", 2);
        CHECK.badBehind(friends.toString(), "friend", 2);
        CHECK.badBehind(rights.toString(), "right a !", 2);
        CHECK.badBehind(rights.toString(), "right", 2);
    }

    /** "a second time .. at the line's first word" */
    static void aSecondTimeIsAtTheLinesFirstWord() {
        CHECK.badBehind("odds 1;", "odds !", 2);
        CHECK.badBehind("draw 7;", "draw 1000;", 2);
        CHECK.badBehind("ages 1 to 2;", "ages 151 to 2;", 2);
        CHECK.badBehind("odds 1;draw 7;", "odds", 2);
        CHECK.badBehind("odds 1;draw 7;", "draw", 2);
    }

    /** "ages behind another line: at the line's first word" */
    static void agesBehindAnotherLineIsAtTheLinesFirstWord() {
        CHECK.badBehind("draw 7;", "ages 151 to 2;", 2);
        CHECK.badBehind("ages 1 to 2;draw 7;", "ages", 2);
        CHECK.badBehind("right x 1;", "ages!", 2);
    }

    /** "a unit too many .. at its first TOKEN": the N, the word, the sign of an ( e ). */
    static void aUnitTooManyIsAtItsFirstToken() {
        for (String unit : new String[] {"1;", "age;", "coin;", "year;", "family;", "(1);", "((1));", "1 !"}) {
            CHECK.badBehind("right x " + THIRTY + "+", unit, 2);
            CHECK.badBehind("right x " + THIRTY + ";odds " + THIRTY + ";right y ", unit, 2);
        }
    }

    /** "a unit too many": what stands around it is none, a TOKEN that is no unit is at its own place. */
    static void whatIsNoUnitIsNoUnitTooMany() {
        CHECK.badBehind("right x " + THIRTY, ");", 2);
        CHECK.badBehind("right x " + THIRTY + " and not not ", "1;", 2);
        CHECK.badBehind("right x (" + "1" + "+1".repeat(28) + "+", "1);", 2);
        CHECK.good("right x (" + "1" + "+1".repeat(28) + ");");
    }

    /** "what is within 7 others: at its first TOKEN" */
    static void aUnitWithinSevenOthersIsAtItsFirstToken() {
        CHECK.badBehind("right x (((((((", "(", 2);
        CHECK.badBehind("right x 1+(((((((", "((1)", 2);
        CHECK.badBehind("right x (((((((1+", "(!", 2);
    }

    /** "what is within 7 others: at .. the not" */
    static void aOneWithinSevenOthersIsAtTheNot() {
        CHECK.badBehind("right x not not not not not not not ", "not", 2);
        CHECK.badBehind("right x not not not not not not not ", "not not 1;", 2);
        CHECK.badBehind("right x (((((((1 and ", "not !", 2);
    }

    /** "3 a NAME told already (of its sort)": a PERSON's. */
    static void aPersonsNameToldAlready() {
        CHECK.badBehind(TWO + "person ", "a age 1 coin 1;", 3);
        CHECK.badBehind(TWO + "person ", "b age 1 coin 1;", 3);
        CHECK.badBehind("person abcdefgh age 1 coin 1;person ", "abcdefgh!", 3);
    }

    /** "3 a NAME told already (of its sort)": a RIGHT's. */
    static void aRightsNameToldAlready() {
        CHECK.badBehind("right a 1;right b 1;right ", "a 1;", 3);
        CHECK.badBehind("right a 1;right b 1;right ", "b", 3);
    }

    /** "(of its sort)": one of another sort is no FAULT. */
    static void aNameOfAnotherSortIsNoFault() {
        CHECK.good("person a age 1 coin 1;right a 1;right b 1;person b age 1 coin 1;");
    }

    /** "told already": in this TOWN, not in the one before, nor in a text that was refused. */
    static void namesOfAnOlderTownAreNotTold() {
        YearHands x = CHECK.good("person a age 1 coin 1;right x 1;");
        CHECK.due("told again", Check.tell(x, "person a age 1 coin 1;right x 1;"), 1);
        CHECK.due("a FAULT", Check.tell(x, "person c age 1 coin 1;right y 1;person d"), -1);
        CHECK.due("told again", Check.tell(x, "person c age 1 coin 1;right y 1;person d age 1 coin 1;"), 2);
    }

    /** "FRIENDS told already (at the second NAME)" */
    static void friendsToldAlreadyAreAtTheSecondName() {
        CHECK.badBehind(TWO + "friend a to b price 1;friend a to ", "b price 1;", 3);
        CHECK.badBehind(TWO + "friend a to b price 1;friend b to a price 1;friend a to ", "b", 3);
    }

    /** "of one to itself": at the second NAME, too. */
    static void friendsOfOneToItselfAreAtTheSecondName() {
        CHECK.badBehind(TWO + "friend a to ", "a price 1;", 3);
        CHECK.badBehind(TWO + "friend b to ", "b", 3);
    }

    /** "4 a number that can't be": at the number. */
    static void aNumberThatCantBeIsAtTheNumber() {
        CHECK.badBehind("ages ", "151 to 151;", 4);
        CHECK.badBehind("ages 9 to ", "8;", 4);
        CHECK.badBehind("person a age ", "121 coin 1;", 4);
        CHECK.badBehind("person a age 1 coin ", "1000;", 4);
        CHECK.badBehind("person a age 1 coin 1 need ", "121;", 4);
        CHECK.badBehind("person a age 1 coin 1 family ", "4;", 4);
        CHECK.badBehind(TWO + "friend a to b price ", "100;", 4);
        CHECK.badBehind("draw ", "1000;", 4);
        CHECK.badBehind("draw ", "9999;", 4);
    }

    /** "4 a number that can't be": in an e each N can be. */
    static void eachNumberOfAnECanBe() {
        CHECK.good("right x 0 + 0000 + 9999;odds 9999;");
    }

    /** "5 a NAME that no PERSON has": the first, the second; a RIGHT's NAME is none. */
    static void aNameThatNoPersonHas() {
        CHECK.badBehind(TWO + "friend ", "c to a price 1;", 5);
        CHECK.badBehind(TWO + "friend a to ", "c price 1;", 5);
        CHECK.badBehind(TWO + "right c 1;friend a to ", "c price 1;", 5);
        CHECK.badBehind("friend ", "a to b price 1;", 5);
        CHECK.badBehind(TWO + "friend ", "aa to b price 1;", 5);
    }

    /** "5 a NAME that no PERSON has": PEOPLE of an older TOWN are none. */
    static void aNameThatAPersonOfAnOlderTownHas() {
        YearHands x = CHECK.good(TWO);
        CHECK.due("told again", Check.tell(x, "person a age 1 coin 1;friend a to b price 1;"), -1);
        CHECK.due("FAULT", x.fault(0), 5);
        CHECK.due("its place", x.fault(1), 34);
    }
}
