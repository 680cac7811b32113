/** Promises 6 to 9, the Terms' sentence on RIGHTS and ODDS: each boundary case has one test, named after its sentence. */
public final class PeopleBoundsTest {
    private static final Check CHECK = new Check("PeopleBoundsTest");
    private static final int[] FAR_OFF = {-1, Integer.MIN_VALUE, Integer.MAX_VALUE};
    /** a dies in the first YEAR. */
    private static final String TOWN = "ages 10 to 60;person a age 30 coin 7 need 40 family 3;person b age 20 coin 999;"
        + "right r 1;right s 0;odds 100*(age=31);";

    public static void main(String[] args) {
        CHECK.runAll(PeopleBoundsTest.class);
    }

    private static YearHands aDied() {
        YearHands x = Check.town(TOWN);
        CHECK.due("a dies", x.year(), 1);
        return x;
    }

    /** What comes of a formula: it HAS the first RIGHT if that is not 0, the second one if it is the other formula's. */
    private static void value(String formula, String due) {
        YearHands x = Check.town("person a age 33 coin 44 family 2;right x " + formula + ";right y (" + formula + ")=(" + due + ");");
        CHECK.due(formula + " = " + due, x.has(0, 1), 1);
    }

    private static void truth(String formula, int due) {
        YearHands x = Check.town("person a age 33 coin 44 family 2;right x " + formula + ";");
        CHECK.due(formula, x.has(0, 0), due);
    }

    private static int odds(String formula) {
        return Check.town("odds " + formula + ";").odds(33);
    }

    // ---- Promise 6

    /** "what 0: age, 1: coin, 2: 1 if alive, else 0, 3: need, 4: family" */
    static void ofAPersonWhat0To4() {
        YearHands x = Check.town(TOWN);
        int[] due = {30, 7, 1, 40, 3};
        for (int what = 0; what < 5; what++) {
            CHECK.due("person(0, " + what + ")", x.person(0, what), due[what]);
        }
    }

    /** "2: 1 if alive, else 0": the dead are PEOPLE still. */
    static void ofTheDeadWhat0To4() {
        YearHands x = aDied();
        int[] due = {31, 7, 0, 40, 3};
        for (int what = 0; what < 5; what++) {
            CHECK.due("person(0, " + what + ")", x.person(0, what), due[what]);
        }
        CHECK.due("the living", x.person(1, 2), 1);
    }

    /** "NONE if there is none such" */
    static void noSuchPersonIsNone() {
        YearHands x = Check.town(TOWN);
        CHECK.due("the last one", x.person(1, 0), 20);
        for (int what = 0; what < 5; what++) {
            CHECK.due("person(2, " + what + ")", x.person(2, what), -1);
            CHECK.due("person(8, " + what + ")", x.person(8, what), -1);
            for (int person : FAR_OFF) {
                CHECK.due("person(" + person + ", " + what + ")", x.person(person, what), -1);
            }
        }
    }

    /** "NONE .. for another what" */
    static void anotherWhatOfAPersonIsNone() {
        YearHands x = Check.town(TOWN);
        CHECK.due("person(0, 5)", x.person(0, 5), -1);
        for (int what : FAR_OFF) {
            CHECK.due("person(0, " + what + ")", x.person(0, what), -1);
        }
    }

    // ---- Promise 7, RIGHTS

    /** "1 if one HAS a RIGHT, else 0" */
    static void hasIs1Or0() {
        YearHands x = Check.town(TOWN);
        CHECK.due("has(1, 0)", x.has(1, 0), 1);
        CHECK.due("has(1, 1)", x.has(1, 1), 0);
        CHECK.due("1, whatever comes of it", Check.town("person a age 5 coin 1;right r age;").has(0, 0), 1);
    }

    /** "NONE if one can't be": no such PERSON. */
    static void hasOfNoSuchPersonIsNone() {
        YearHands x = Check.town(TOWN);
        CHECK.due("has(2, 0)", x.has(2, 0), -1);
        for (int person : FAR_OFF) {
            CHECK.due("has(" + person + ", 0)", x.has(person, 0), -1);
        }
    }

    /** "NONE if one can't be": no such RIGHT. */
    static void hasOfNoSuchRightIsNone() {
        YearHands x = Check.town(TOWN);
        CHECK.due("has(0, 2)", x.has(0, 2), -1);
        CHECK.due("has(0, 6)", x.has(0, 6), -1);
        for (int right : FAR_OFF) {
            CHECK.due("has(0, " + right + ")", x.has(0, right), -1);
        }
        CHECK.due("has of the dead and no RIGHT", aDied().has(0, 2), -1);
    }

    /** "One HAS a RIGHT, if he is alive" */
    static void theDeadHaveNoRight() {
        YearHands x = aDied();
        CHECK.due("the dead", x.has(0, 0), 0);
        CHECK.due("the living", x.has(1, 0), 1);
        x.undo();
        CHECK.due("alive again", x.has(0, 0), 1);
    }

    /** "its e is not 0": what is below 0 is not 0. */
    static void anEBelow0IsNot0() {
        truth("0", 0);
        truth("1", 1);
        truth("0-1", 1);
        truth("2048*1024*1024", 1);
        truth("2048*1024*1024*2", 0);
    }

    /** "by his age, his coin, the YEAR .., his family" */
    static void byHisAgeCoinYearFamily() {
        truth("age=33", 1);
        truth("coin=44", 1);
        truth("year=0", 1);
        truth("family=2", 1);
    }

    /** "by his age, his coin": as they are now, not as told. */
    static void byHisAgeAndCoinNow() {
        YearHands x = Check.town("person a age 30 coin 10;person b age 20 coin 10;friend a to b price 2;"
            + "right x age=27;right y coin=16;right z age=23 and coin=4;");
        x.give(0, 1, 3);
        CHECK.due("his age now", x.has(0, 0), 1);
        CHECK.due("his coin now", x.has(0, 1), 1);
        CHECK.due("of who took", x.has(1, 2), 1);
    }

    /** "the YEAR (0 at first)" */
    static void theYearIs0AtFirst() {
        YearHands x = Check.town("person a age 1 coin 1;right x year=0;right y year=1;");
        CHECK.due("at first", x.has(0, 0), 1);
        x.year();
        CHECK.due("a YEAR later", x.has(0, 0), 0);
        CHECK.due("a YEAR later", x.has(0, 1), 1);
    }

    /** "ints, wrapping": a sum above the most int. */
    static void sumsWrap() {
        String most = "2048*1024*1024-1";
        truth(most + ">0", 1);
        truth(most + "+1<0", 1);
        value(most + "+1", "2048*1024*1024");
    }

    /** "ints, wrapping": a difference below the least int. */
    static void differencesWrap() {
        truth("2048*1024*1024<0", 1);
        truth("2048*1024*1024-1>0", 1);
        truth("0-2048*1024*1024<0", 1);
    }

    /** "ints, wrapping": a product of more than 32 bits keeps its lowest. */
    static void productsWrap() {
        // 999,700,029,999 less 233 times 4,294,967,296.
        value("9999*9999*9999", "0-(1027*1000+349)*1000-969");
        truth("4096*1024*1024", 0);
        truth("9999*9999*22<0", 1);
        value("8192*8192*64+5", "5");
    }

    /** "ints, wrapping": the least int by -1 is itself, its rest is 0. */
    static void theLeastIntByMinusOneWraps() {
        value("2048*1024*1024/(0-1)", "2048*1024*1024");
        value("2048*1024*1024%(0-1)", "0");
    }

    /** "/ cut": to 0, also below 0. */
    static void quotientsAreCut() {
        value("7/2", "3");
        value("(0-7)/2", "0-3");
        value("7/(0-2)", "0-3");
        value("(0-7)/(0-2)", "3");
        value("1/2", "0");
        value("(0-1)/2", "0");
        value("6/2", "3");
    }

    /** "% its rest": of the cut quotient. */
    static void restsAreOfTheCutQuotient() {
        value("7%2", "1");
        value("(0-7)%4", "0-3");
        value("7%(0-4)", "3");
        value("(0-7)%(0-4)", "0-3");
        value("8%4", "0");
        value("3%4", "3");
    }

    /** "both by 0: 0": the quotient. */
    static void aQuotientBy0Is0() {
        value("7/0", "0");
        value("0/0", "0");
        value("7/(1-1)+5", "5");
        value("7/year", "0");
    }

    /** "both by 0: 0": the rest. */
    static void aRestBy0Is0() {
        value("7%0", "0");
        value("0%0", "0");
        value("7%(1-1)+5", "5");
        value("7%year", "0");
    }

    /** "relations .. are 1 or 0": each at like numbers, one more, one less, below 0. */
    static void relationsAre1Or0() {
        value("1<2", "1");
        value("2<2", "0");
        value("3<2", "0");
        value("2>1", "1");
        value("2>2", "0");
        value("1>2", "0");
        value("2=2", "1");
        value("1=2", "0");
        value("3=2", "0");
        value("0-1<0", "1");
        value("0-1>0", "0");
    }

    /** "and .. 1 or 0, of what is not 0" */
    static void andIs1Or0OfWhatIsNot0() {
        value("5 and 6", "1");
        value("0-1 and 2", "1");
        value("2 and 0-1", "1");
        value("1 and 2", "1");
        value("5 and 0", "0");
        value("0 and 5", "0");
        value("0 and 0", "0");
    }

    /** "or .. 1 or 0, of what is not 0" */
    static void orIs1Or0OfWhatIsNot0() {
        value("5 or 6", "1");
        value("0-1 or 0", "1");
        value("0 or 0-1", "1");
        value("5 or 0", "1");
        value("0 or 0", "0");
        value("1 or 1", "1");
    }

    /** "not .. 1 or 0, of what is not 0" */
    static void notIs1Or0OfWhatIsNot0() {
        value("not 0", "1");
        value("not 1", "0");
        value("not 5", "0");
        value("not (0-1)", "0");
        value("not not 5", "1");
    }

    /** "e = both {or both}": or joins what and has joined, and joins what not stands ahead of, not relations. */
    static void whatJoinsFirst() {
        value("1 or 0 and 0", "1");
        value("0 and 0 or 1", "1");
        value("not 1 and 0", "0");
        value("not 0 and 0", "0");
        value("not 1=2", "1");
        value("not 0 or 1", "1");
        value("1+1=2 and 3>1+1", "1");
        value("1+2*3", "7");
        value("(1+2)*3", "9");
        value("10-3-2", "5");
        value("100/5/2", "10");
        value("100/5*2", "40");
        value("17%10*2", "14");
        value("10-3+2", "9");
    }

    // ---- Promise 8, ODDS

    /** "ODDS of an age (LEAST .. MOST)" */
    static void oddsOfAnAgeFromLeastToMost() {
        YearHands x = Check.town("ages 10 to 60;odds age;");
        CHECK.due("LEAST", x.odds(10), 10);
        CHECK.due("MOST", x.odds(60), 60);
    }

    /** "NONE for another one." */
    static void oddsOfAnotherAgeAreNone() {
        YearHands x = Check.town("ages 10 to 60;odds age;");
        CHECK.due("below LEAST", x.odds(9), -1);
        CHECK.due("above MOST", x.odds(61), -1);
        CHECK.due("odds(0)", x.odds(0), -1);
        for (int age : FAR_OFF) {
            CHECK.due("odds(" + age + ")", x.odds(age), -1);
        }
        CHECK.due("above 120, not told", new YearHands().odds(121), -1);
    }

    /** "(0, if it is not told)" */
    static void oddsAre0IfNotTold() {
        YearHands x = Check.town("person a age 1 coin 1;right r 50;");
        CHECK.due("odds(0)", x.odds(0), 0);
        CHECK.due("odds(120)", x.odds(120), 0);
        CHECK.due("nobody dies", x.year(), 0);
    }

    /** "what comes of odds .. by it": the age that is asked for. */
    static void oddsAreByTheAge() {
        CHECK.due("odds age", odds("age"), 33);
    }

    /** "coin and family 0" */
    static void oddsAreByCoinAndFamily0() {
        YearHands x = Check.town("person a age 33 coin 44 family 2;odds 10+coin+family;");
        CHECK.due("odds(33)", x.odds(33), 10);
        x = Check.town("person a age 33 coin 44 family 2;odds 100*(coin>0 or family>0);");
        CHECK.due("nobody dies", x.year(), 0);
    }

    /** "by .. the YEAR" */
    static void oddsAreByTheYear() {
        YearHands x = Check.town("odds year+5;");
        CHECK.due("at first", x.odds(33), 5);
        x.year();
        CHECK.due("a YEAR later", x.odds(33), 6);
        x.undo();
        CHECK.due("undone", x.odds(33), 5);
    }

    /** "0 at least" */
    static void oddsAre0AtLeast() {
        CHECK.due("age - 33", odds("age-33"), 0);
        CHECK.due("age - 34", odds("age-34"), 0);
        CHECK.due("the least int", odds("2048*1024*1024"), 0);
        CHECK.due("age - 32", odds("age-32"), 1);
    }

    /** "100 at most" */
    static void oddsAre100AtMost() {
        CHECK.due("age + 66", odds("age+66"), 99);
        CHECK.due("age + 67", odds("age+67"), 100);
        CHECK.due("age + 68", odds("age+68"), 100);
        CHECK.due("the most int", odds("2048*1024*1024-1"), 100);
    }

    // ---- Promise 9

    /** "All years of a family" */
    static void sumOfAFamily() {
        YearHands x = Check.town("person a age 30 coin 0 family 3;person b age 20 coin 0;person c age 5 coin 0 family 3;");
        CHECK.due("sum(0)", x.sum(0), 20);
        CHECK.due("sum(3)", x.sum(3), 35);
    }

    /** "All years of a family": of one without PEOPLE there are none. */
    static void sumOfAFamilyWithoutPeopleIs0() {
        YearHands x = Check.town("person a age 30 coin 0 family 3;");
        CHECK.due("sum(0)", x.sum(0), 0);
        CHECK.due("sum(1)", x.sum(1), 0);
        CHECK.due("sum(2)", x.sum(2), 0);
    }

    /** "(NONE: of all)" */
    static void sumOfAll() {
        YearHands x = Check.town("person a age 30 coin 0 family 3;person b age 20 coin 0;person c age 5 coin 0 family 2;");
        CHECK.due("sum(-1)", x.sum(YearHands.NONE), 55);
    }

    /** "that are alive" */
    static void sumWithoutTheDead() {
        YearHands x = aDied();
        CHECK.due("sum(-1)", x.sum(-1), 21);
        CHECK.due("sum(3)", x.sum(3), 0);
        CHECK.due("sum(0)", x.sum(0), 21);
    }

    /** "GAP if there is none such (0 .. 3)" */
    static void sumOfNoSuchFamilyIsGap() {
        YearHands x = Check.town(TOWN);
        for (int family : new int[] {4, -2, Integer.MIN_VALUE, Integer.MAX_VALUE}) {
            CHECK.due("sum(" + family + ")", x.sum(family), YearHands.GAP);
        }
    }
}
