/** The Terms' sentences on the lines of a TOWN's text that name a boundary case: one test for each, named after it. */
public final class LinesBoundsTest {
    private static final Check CHECK = new Check("LinesBoundsTest");
    private static final String TWO = "person a age 10 coin 20;person b age 10 coin 20;";

    public static void main(String[] args) {
        CHECK.runAll(LinesBoundsTest.class);
    }

    private static String people(int count) {
        StringBuilder text = new StringBuilder();
        for (int i = 0; i < count; i++) {
            text.append("person ").append((char) ('a' + i)).append(" age 1 coin 0;");
        }
        return text.toString();
    }

    /** Eight PEOPLE and so many FRIENDS, 56 at most. */
    private static String friends(int count) {
        StringBuilder text = new StringBuilder(people(8));
        for (int i = 0; i < count; i++) {
            int from = i / 7;
            int to = i % 7 + (i % 7 >= from ? 1 : 0);
            text.append("friend ").append((char) ('a' + from)).append(" to ").append((char) ('a' + to)).append(" price 1;");
        }
        return text.toString();
    }

    private static String rights(int count) {
        StringBuilder text = new StringBuilder();
        for (int i = 0; i < count; i++) {
            text.append("right ").append((char) ('a' + i)).append(" 1;");
        }
        return text.toString();
    }

    private static String units(int count) {
        return "1" + "+1".repeat(count - 1);
    }

    // ---- line, e, both, one, sum, term, unit

    /** "[need N] [family N]": none of both, one, the other, both in this order, each once. */
    static void needAndFamilyMayBeLeftOut() {
        CHECK.good("person a age 1 coin 0;");
        CHECK.good("person a age 1 coin 0 need 1;");
        CHECK.good("person a age 1 coin 0 family 1;");
        CHECK.good("person a age 1 coin 0 need 1 family 1;");
        CHECK.badBehind("person a age 1 coin 0 family 1 ", "need 1;", 2);
        CHECK.badBehind("person a age 1 coin 0 need 1 ", "need 1;", 2);
        CHECK.badBehind("person a age 1 coin 0 family 1 ", "family 1;", 2);
    }

    /** "person NAME age N coin N": nothing else is left out. */
    static void nothingElseIsLeftOut() {
        CHECK.badBehind("person ", "age 1 coin 0;", 2);
        CHECK.badBehind("person a ", "coin 0;", 2);
        CHECK.badBehind("person a age 1", ";", 2);
        CHECK.badBehind("person a age ", "coin 0;", 2);
        CHECK.badBehind("person a age 1 coin", ";", 2);
        CHECK.badBehind("person a age 1 coin 0 need", ";", 2);
        CHECK.badBehind("person a age 1 coin 0 family", ";", 2);
        CHECK.badBehind(TWO + "friend ", "to b price 1;", 2);
        CHECK.badBehind(TWO + "friend a ", "b price 1;", 2);
        CHECK.badBehind(TWO + "friend a to ", "price 1;", 2);
        CHECK.badBehind(TWO + "friend a to b", ";", 2);
        CHECK.badBehind(TWO + "friend a to b price", ";", 2);
        CHECK.badBehind("right ", "1;", 2);
        CHECK.badBehind("ages ", "to 2;", 2);
        CHECK.badBehind("ages 1 ", "2;", 2);
        CHECK.badBehind("ages 1 to", ";", 2);
        CHECK.badBehind("draw", ";", 2);
    }

    /** "town = {line}": a line that breaks off is none, though a whole one stands behind it. */
    static void aLineThatBreaksOffIsNone() {
        String[] lines = {"person c age 1 coin 1 need 1 family 1", "friend a to b price 1", "right x not ( 1 + 2 ) * 3 = 4 and 5 or 6",
            "odds age", "draw 7"};
        for (String line : lines) {
            String[] words = line.split(" ");
            StringBuilder broken = new StringBuilder(TWO);
            for (String word : words) {
                broken.append(word).append(' ');
                CHECK.badBehind(broken.toString(), "right y 1;", 2);
                CHECK.badBehind(broken.toString(), "person d age 1 coin 1;", 2);
            }
        }
        CHECK.badBehind("ages ", "draw 7;", 2);
        CHECK.badBehind("ages 1 ", "draw 7;", 2);
        CHECK.badBehind("ages 1 to ", "draw 7;", 2);
        CHECK.badBehind("ages 1 to 2 ", "draw 7;", 2);
    }

    /** "right NAME e", "odds e": e is not empty. */
    static void anEIsNotEmpty() {
        CHECK.badBehind("right x", ";", 2);
        CHECK.badBehind("odds", ";", 2);
        CHECK.badBehind("right x (", ");", 2);
    }

    /** "e = both {or both}. both = one {and one}": one alone or many, none left out. */
    static void orAndAndJoinOneOrMany() {
        CHECK.good("right x 1;");
        CHECK.good("right x 1 or 1 or 1 and 1 and 1;");
        CHECK.badBehind("right x 1 or", ";", 2);
        CHECK.badBehind("right x 1 and", ";", 2);
        CHECK.badBehind("right x ", "or 1;", 2);
        CHECK.badBehind("right x 1 and ", "or 1;", 2);
    }

    /** "one = not one": not stands ahead of a one alone. */
    static void notStandsAheadOfAOne() {
        CHECK.good("right x not 1 and not not 1 < 2 or not 1;");
        CHECK.badBehind("right x not", ";", 2);
        CHECK.badBehind("right x 1 + ", "not 1;", 2);
        CHECK.badBehind("right x 1 < ", "not 1;", 2);
        CHECK.badBehind("right x 1 ", "not 1;", 2);
    }

    /** "sum [(< | > | =) sum]": one relation at most. */
    static void oneRelationAtMost() {
        CHECK.good("right x 1 < 2;right y 1 > 2;right z 1 = 2;");
        CHECK.badBehind("right x 1 < 2 ", "< 3;", 2);
        CHECK.badBehind("right x 1 = 2 ", "> 3;", 2);
        CHECK.badBehind("right x 1 <", ";", 2);
        CHECK.badBehind("right x ", "< 1;", 2);
    }

    /** "sum = term {(+ | -) term}. term = unit {(* | / | %) unit}": none left out. */
    static void sumsAndTermsHaveAUnitOnBothSides() {
        CHECK.good("right x 1 + 2 - 3 * 4 / 5 % 6;");
        for (String sign : new String[] {"+", "-", "*", "/", "%"}) {
            CHECK.badBehind("right x 1 " + sign, ";", 2);
            CHECK.badBehind("right x ", sign + "1;", 2);
        }
        CHECK.badBehind("right x 1 ", "2;", 2);
    }

    /** "unit = N | age | coin | year | family | ( e )": no other words. */
    static void unitsAreThoseAlone() {
        CHECK.good("right x 1 + age + coin + year + family + (1 or 1);");
        CHECK.badBehind(TWO + "right x ", "a;", 2);
        CHECK.badBehind("right x ", "need;", 2);
        CHECK.badBehind("right x ", "price;", 2);
        CHECK.badBehind("right x (1", ";", 2);
        CHECK.badBehind("right x 1", ");", 2);
    }

    // ---- ages

    /** "the LEAST .. age: 0 .. 150" */
    static void leastIs0To150() {
        CHECK.due("LEAST", CHECK.good("ages 0 to 9;").about(3), 0);
        CHECK.due("LEAST", CHECK.good("ages 150 to 150;").about(3), 150);
        CHECK.badBehind("ages ", "151 to 151;", 4);
    }

    /** "the MOST age: 0 .. 150" */
    static void mostIs0To150() {
        CHECK.due("MOST", CHECK.good("ages 0 to 0;").about(4), 0);
        CHECK.due("MOST", CHECK.good("ages 7 to 150;").about(4), 150);
        CHECK.badBehind("ages 7 to ", "151;", 4);
    }

    /** "the second not below the first" */
    static void theSecondIsNotBelowTheFirst() {
        CHECK.due("MOST", CHECK.good("ages 7 to 7;").about(4), 7);
        CHECK.badBehind("ages 7 to ", "6;", 4);
        CHECK.badBehind("ages 150 to ", "0;", 4);
    }

    /** "0 to 120 if not told" */
    static void agesAre0To120IfNotTold() {
        YearHands x = CHECK.good("person a age 0 coin 0;person b age 120 coin 0 need 120;");
        CHECK.due("LEAST", x.about(3), 0);
        CHECK.due("MOST", x.about(4), 120);
        CHECK.badBehind("person a age ", "121 coin 0;", 4);
    }

    /** "0 to 120 if not told": those of an older TOWN are no matter. */
    static void agesOfAnOlderTownAreNotTold() {
        YearHands x = CHECK.good("ages 7 to 9;");
        CHECK.due("told again", Check.tell(x, "draw 1;"), 0);
        CHECK.due("LEAST", x.about(3), 0);
        CHECK.due("MOST", x.about(4), 120);
    }

    /** "ages .. once" */
    static void agesOnce() {
        CHECK.badBehind("ages 1 to 2;", "ages 1 to 2;", 2);
    }

    /** "ahead of all others" */
    static void agesAheadOfAllOthers() {
        CHECK.good("ages 1 to 2;draw 7;");
        for (String line : new String[] {"person a age 1 coin 0;", "right a 1;", "odds 1;", "draw 7;", TWO + "friend a to b price 1;"}) {
            CHECK.badBehind(line, "ages 1 to 50;", 2);
        }
    }

    // ---- PEOPLE

    /** "At most 8 PEOPLE" */
    static void atMost8People() {
        CHECK.due("PEOPLE", CHECK.good(people(8)).about(0), 8);
        CHECK.badBehind(people(8), "person i age 1 coin 0;", 2);
    }

    /** "age from LEAST to MOST": LEAST and MOST are ages, those beside them are none. */
    static void aPersonsAgeIsFromLeastToMost() {
        YearHands x = CHECK.good("ages 10 to 20;person a age 10 coin 0;person b age 20 coin 0;");
        CHECK.due("at LEAST", x.person(0, 0), 10);
        CHECK.due("at MOST", x.person(1, 0), 20);
        CHECK.badBehind("ages 10 to 20;person a age ", "9 coin 0;", 4);
        CHECK.badBehind("ages 10 to 20;person a age ", "21 coin 0;", 4);
    }

    /** "coin 0 .. 999" */
    static void coinIs0To999() {
        YearHands x = CHECK.good("person a age 1 coin 0;person b age 1 coin 999;");
        CHECK.due("the least", x.person(0, 1), 0);
        CHECK.due("the most", x.person(1, 1), 999);
        CHECK.badBehind("person a age 1 coin ", "1000;", 4);
    }

    /** "need LEAST .. MOST" */
    static void needIsLeastToMost() {
        YearHands x = CHECK.good("ages 10 to 20;person a age 15 coin 0 need 10;person b age 15 coin 0 need 20;");
        CHECK.due("LEAST", x.person(0, 3), 10);
        CHECK.due("MOST", x.person(1, 3), 20);
        CHECK.badBehind("ages 10 to 20;person a age 15 coin 0 need ", "9;", 4);
        CHECK.badBehind("ages 10 to 20;person a age 15 coin 0 need ", "21;", 4);
    }

    /** "need .., his age if not told": his own, not that of another one. */
    static void needIsHisAgeIfNotTold() {
        YearHands x = CHECK.good("person a age 5 coin 0 need 99 family 1;person b age 7 coin 3 family 2;person c age 0 coin 3;");
        CHECK.due("told", x.person(0, 3), 99);
        CHECK.due("not told", x.person(1, 3), 7);
        CHECK.due("not told, age 0", x.person(2, 3), 0);
    }

    /** "family 0 .. 3" */
    static void familyIs0To3() {
        YearHands x = CHECK.good("person a age 1 coin 0 family 0;person b age 1 coin 0 family 3;");
        CHECK.due("the least", x.person(0, 4), 0);
        CHECK.due("the most", x.person(1, 4), 3);
        CHECK.badBehind("person a age 1 coin 0 family ", "4;", 4);
    }

    /** "family .., 0 if not told": though need is, or another one's was. */
    static void familyIs0IfNotTold() {
        YearHands x = CHECK.good("person a age 1 coin 0 family 3;person b age 1 coin 2;person c age 1 coin 2 need 2;");
        CHECK.due("not told", x.person(1, 4), 0);
        CHECK.due("need told", x.person(2, 4), 0);
    }

    // ---- FRIENDS

    /** "20 FRIENDS" */
    static void atMost20Friends() {
        CHECK.due("FRIENDS", CHECK.good(friends(20)).about(1), 20);
        CHECK.badBehind(friends(20), "friend h to a price 1;", 2);
    }

    /** "two unlike PEOPLE" */
    static void friendsAreTwoUnlikePeople() {
        CHECK.badBehind(TWO + "friend a to ", "a price 1;", 3);
        CHECK.badBehind(TWO + "friend b to ", "b price 1;", 3);
    }

    /** "PEOPLE told ahead": one told behind is none yet. */
    static void friendsAreToldAhead() {
        CHECK.badBehind("person a age 1 coin 0;friend a to ", "b price 1;person b age 1 coin 0;", 5);
        CHECK.badBehind("person a age 1 coin 0;friend ", "b to a price 1;person b age 1 coin 0;", 5);
        CHECK.good("draw 1;person a age 1 coin 0;odds 1;person b age 1 coin 0;right r 1;friend b to a price 1;person c age 1 coin 1;");
    }

    /** "years go from the first to the second" */
    static void yearsGoFromTheFirstToTheSecond() {
        YearHands x = CHECK.good(TWO + "friend a to b price 1;");
        CHECK.due("from the second to the first", x.give(1, 0, 1), -1);
        CHECK.due("from the first to the second", x.give(0, 1, 1), 1);
        CHECK.due("the first is younger", x.person(0, 0), 9);
    }

    /** "each two in this order once": in the other order once, too. */
    static void eachTwoInThisOrderOnce() {
        CHECK.good(TWO + "friend a to b price 1;friend b to a price 2;");
        CHECK.badBehind(TWO + "friend a to b price 1;friend a to ", "b price 1;", 3);
        CHECK.badBehind(TWO + "friend a to b price 1;friend b to a price 2;friend b to ", "a price 3;", 3);
    }

    /** "price 0 .. 99 a year" */
    static void priceIs0To99() {
        YearHands x = CHECK.good("person a age 10 coin 99;person b age 10 coin 99;friend a to b price 0;friend b to a price 99;");
        CHECK.due("the least", x.give(0, 1, 1), 0);
        CHECK.due("the most", x.give(1, 0, 1), 99);
        CHECK.badBehind(TWO + "friend a to b price ", "100;", 4);
    }

    /** "paid by who takes to who gives" */
    static void thePriceIsPaidByWhoTakesToWhoGives() {
        YearHands x = CHECK.good(TWO + "friend a to b price 7;");
        x.give(0, 1, 2);
        CHECK.due("who gives", x.person(0, 1), 34);
        CHECK.due("who takes", x.person(1, 1), 6);
    }

    // ---- RIGHTS, odds, draw

    /** "6 RIGHTS" */
    static void atMost6Rights() {
        CHECK.due("RIGHTS", CHECK.good(rights(6)).about(2), 6);
        CHECK.badBehind(rights(6), "right g 1;", 2);
    }

    /** "numbered as told, each sort by itself" */
    static void eachSortIsNumberedByItself() {
        YearHands x = CHECK.good("person a age 1 coin 10;right x 0;person b age 2 coin 11;right y 1;friend b to a price 3;");
        CHECK.due("the first PERSON", x.person(0, 1), 10);
        CHECK.due("the second PERSON", x.person(1, 1), 11);
        CHECK.due("the first RIGHT", x.has(0, 0), 0);
        CHECK.due("the second RIGHT", x.has(0, 1), 1);
        x.face(0, 2);
        CHECK.due("explained", x.explained(0), 1);
        CHECK.lies("the first FRIENDS", x, 0, 1);
    }

    /** "draw (0 .. 999" */
    static void drawIs0To999() {
        CHECK.due("the least", CHECK.good("draw 0;").about(6), 0);
        CHECK.due("the most", CHECK.good("draw 999;").about(6), 999);
        CHECK.badBehind("draw ", "1000;", 4);
    }

    /** "draw (..; 0)": it is 0 if it is not told. */
    static void drawIs0IfNotTold() {
        YearHands x = CHECK.good("draw 7;");
        CHECK.due("told again", Check.tell(x, "odds 1;"), 0);
        CHECK.due("SEED", x.about(6), 0);
    }

    /** "odds .. once" */
    static void oddsOnce() {
        CHECK.badBehind("odds 1;", "odds 1;", 2);
        CHECK.badBehind("odds 0;draw 1;", "odds 1;", 2);
    }

    /** "draw .. once" */
    static void drawOnce() {
        CHECK.badBehind("draw 7;", "draw 7;", 2);
        CHECK.badBehind("draw 0;odds 1;", "draw 1;", 2);
    }

    /** "once each": both may be told, and in another TOWN again. */
    static void onceInEachTown() {
        YearHands x = CHECK.good("odds 1;draw 7;");
        CHECK.due("told again", Check.tell(x, "draw 8;odds 2;"), 0);
        CHECK.due("SEED", x.about(6), 8);
        CHECK.due("odds(0)", x.odds(0), 2);
    }

    // ---- units

    /** "60 units in all" */
    static void sixtyUnitsInAll() {
        String sixty = "right x " + units(20) + ";odds " + units(20) + ";right y " + units(19) + "+";
        CHECK.due("units", CHECK.good(sixty + "1;").about(16), 60);
        CHECK.badBehind(sixty + "1+", "1;", 2);
        CHECK.badBehind(sixty + "1;right z ", "1;", 2);
    }

    /** "60 units in all": of one TOWN, also behind one that was refused. */
    static void sixtyUnitsInEachTown() {
        YearHands x = CHECK.good("right x " + units(30) + ";odds " + units(30) + ";");
        CHECK.due("a FAULT", Check.tell(x, "right x " + units(30) + ";odds " + units(30) + ";right y 1;"), -1);
        CHECK.due("told again", Check.tell(x, "right x " + units(30) + ";odds " + units(30) + ";"), 0);
        CHECK.due("units", x.about(16), 60);
    }

    /** "30 in one e": in the next one as many again. */
    static void thirtyUnitsInOneE() {
        CHECK.due("units", CHECK.good("right x " + units(30) + ";right y " + units(30) + ";").about(16), 60);
        CHECK.badBehind("right x " + units(30) + "+", "1;", 2);
        CHECK.badBehind("odds " + units(30) + "*", "1;", 2);
    }

    /** "30 in one e": those of an e within it are units of it, too. */
    static void thirtyUnitsWithThoseWithin() {
        CHECK.due("units", CHECK.good("right x (" + units(14) + ")+(" + units(14) + ");").about(16), 30);
        CHECK.badBehind("right x (" + units(14) + ")+(" + units(14) + "+", "1);", 2);
        CHECK.badBehind("right x (" + units(14) + ")+(" + units(14) + ")+", "1;", 2);
    }

    /** "30 in one e": all of them are reckoned, also where none can be joined ahead of the last. */
    static void thirtyUnitsAreAllReckoned() {
        String four = "0 or 1 and 1=1+1*(".repeat(4) + "0 or 1 and 1=1+1*";
        YearHands x = CHECK.good("person a age 1 coin 1;right x " + four + "0))));right y " + four + "1))));");
        CHECK.due("units", x.about(16), 60);
        CHECK.due("by the last unit, 0", x.has(0, 0), 1);
        CHECK.due("by the last unit, 1", x.has(0, 1), 0);
    }

    /** "(a unit ( e ) .. within 6 others at most)" */
    static void aUnitOfAnEIsWithinSixOthers() {
        CHECK.good("right x (((((((1)))))));");
        CHECK.badBehind("right x (((((((", "(1))))))));", 2);
    }

    /** "(.. a one behind not, within 6 others at most)" */
    static void aOneBehindNotIsWithinSixOthers() {
        CHECK.good("right x " + "not ".repeat(7) + "1;");
        CHECK.badBehind("right x " + "not ".repeat(7), "not 1;", 2);
    }

    /** "within 6 others": both sorts count, whichever is around the other. */
    static void bothSortsAreWithinOneAnother() {
        CHECK.good("right x not (not (not (not 1)));");
        CHECK.badBehind("right x not (not (not (not ", "(1))));", 2);
        CHECK.badBehind("right x not (not (not (not ", "not 1)));", 2);
        CHECK.badBehind("right x " + "not ".repeat(7), "(1);", 2);
        CHECK.badBehind("right x (((((((", "not 1)))))));", 2);
    }

    /** "within 6 others": what has ended is not around. */
    static void whatHasEndedIsNotAround() {
        CHECK.good("right x (((((((1)))))))+(((((((1)))))));");
        CHECK.good("right x " + "not ".repeat(7) + "1 and " + "not ".repeat(7) + "1 or (((((((1)))))));");
        CHECK.badBehind("right x (((((((1)))))))+(((((((", "(1))))))));", 2);
    }

    /** "(a unit ( e ), or a one behind not, within 6": other units, ones may be within seven. */
    static void otherUnitsMayBeWithinSeven() {
        CHECK.good("right x (((((((age = 1 and coin or year)))))));");
        CHECK.good("right x " + "not ".repeat(7) + "age + 1 = 2;");
    }
}
