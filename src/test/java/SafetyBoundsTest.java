/** SAFEST and BENDS, promises 27 and 28: each sentence that names a boundary case has one test, named after it. */
public final class SafetyBoundsTest {
    private static final Check CHECK = new Check("SafetyBoundsTest");

    public static void main(String[] args) {
        CHECK.runAll(SafetyBoundsTest.class);
    }

    private static String people(int... ages) {
        StringBuilder text = new StringBuilder();
        for (int p = 0; p < ages.length; p++) {
            text.append("person ").append((char) ('a' + p)).append(" age ").append(ages[p]).append(" coin 0;");
        }
        return text.toString();
    }

    private static void safest(String town, int due, int... lie) {
        YearHands x = Check.town(town);
        CHECK.due("safest() of " + town, x.safest(), due);
        CHECK.lies("safest() of " + town, x, lie);
    }

    private static void bends(String town, boolean due) {
        CHECK.due("bends() of " + town, Check.town(town).bends(), due);
    }

    // ---- SAFEST, promise 27

    /** "SAFEST: ODDS together": of nobody they are 0, and nothing lies there. */
    static void safestOfNobody() {
        safest("odds 50;", 0);
    }

    /** "of all ages .., together as many years as now": one alone keeps his. */
    static void oneAloneKeepsHisAge() {
        safest(people(30) + "odds age;", 30, 30);
        safest(people(0) + "odds age+1;", 1, 0);
    }

    /** "of all ages LEAST ..": LEAST itself, and none below it. */
    static void agesAreFromLeast() {
        safest("ages 10 to 60;" + people(20, 20) + "odds 50*(age>10 and age<30);", 0, 10, 30);
        safest("ages 10 to 60;" + people(20, 20) + "odds 50*(age>9 and age<31);", 100, 10, 30);
    }

    /** "of all ages .. MOST": MOST itself, and none above it. */
    static void agesAreToMost() {
        safest("ages 10 to 60;" + people(50, 50) + "odds 50*(age<60)-50*(age=40);", 0, 40, 60);
        safest("ages 10 to 60;" + people(50, 50) + "odds 50*(age<61)-50*(age=39);", 100, 40, 60);
    }

    /** "LEAST .. MOST": one age alone. */
    static void oneAgeAlone() {
        safest("ages 7 to 7;" + people(7, 7, 7) + "odds 3;", 9, 7, 7, 7);
    }

    /** "together as many years as now": all at LEAST, all at MOST can't be of other ages. */
    static void allAtLeastOrAllAtMost() {
        safest("ages 10 to 60;" + people(10, 10, 10) + "odds 50*(age=10);", 150, 10, 10, 10);
        safest("ages 10 to 60;" + people(60, 60, 60) + "odds 50*(age=60);", 150, 60, 60, 60);
    }

    /** "together as many years as now": no year more, none less, though that were safer. */
    static void togetherAsManyYearsAsNow() {
        safest("ages 0 to 20;" + people(10, 11) + "odds 9*(age=10)+9*(age=11)+50*(age<10)+50*(age>11);", 18, 10, 11);
    }

    /** "together as many years as now": the most that can be, eight at 150. */
    static void theMostYears() {
        safest("ages 0 to 150;" + people(150, 150, 150, 150, 150, 150, 150, 150) + "odds age-60;", 720,
            150, 150, 150, 150, 150, 150, 150, 150);
        safest("ages 0 to 150;" + people(150, 150, 150, 150, 150, 150, 150, 149) + "odds age-60;", 719,
            149, 150, 150, 150, 150, 150, 150, 150);
    }

    /** "ODDS together": the most that can be, 100 of each of eight. */
    static void theMostOdds() {
        safest("ages 0 to 150;" + people(75, 75, 75, 75, 75, 75, 75, 75) + "odds 100;", 800, 0, 0, 0, 0, 150, 150, 150, 150);
    }

    /** "those of fewest ODDS together": not of the safest for one. */
    static void fewestOddsTogether() {
        // At 0 nobody dies, but then the other one is at 40.
        safest("ages 0 to 40;" + people(20, 20) + "odds 10*(age>0)+15*(age>39)-5*(age=25);", 15, 15, 25);
    }

    /** "fewest ODDS together": none at all, though one is found ahead of it. */
    static void noneIsFewerThanOne() {
        safest("ages 0 to 40;" + people(20, 20) + "odds age<1;", 0, 1, 39);
        safest("ages 0 to 40;" + people(20, 20, 20) + "odds age<19;", 0, 19, 19, 22);
        safest("ages 0 to 40;" + people(20, 20) + "odds 1+(age<1);", 2, 1, 39);
    }

    /** "of like ones the first (by PEOPLE, the least)": all are like without ODDS. */
    static void ofLikeOnesTheFirst() {
        safest(people(20, 30, 100), 0, 0, 30, 120);
        safest(people(40, 40, 40) + "odds 7;", 21, 0, 0, 120);
        safest(people(1, 0, 0), 0, 0, 0, 1);
    }

    /** "(by PEOPLE, the least)": the first is least, then the second. */
    static void theFirstIsLeastThenTheSecond() {
        // Nobody dies at 10, 20, 30: 10 20 30 in each order, 20 20 20, 10 10 40 not.
        safest("ages 10 to 40;" + people(20, 20, 20) + "odds 50*(age%10>0 or age=40);", 0, 10, 20, 30);
        safest("ages 10 to 40;" + people(20, 20, 20) + "odds 50*(age%10>0 or age=40 or age=10);", 0, 20, 20, 20);
    }

    /** "Ages lie there then, by PEOPLE (NONE of the dead)." */
    static void noneOfTheDeadLies() {
        YearHands x = Check.town(people(20, 30, 40, 50) + "odds 100*(age=21 or age=41);");
        CHECK.due("a and c die", x.year(), 2);
        CHECK.due("safest()", x.safest(), 0);
        CHECK.lies("safest()", x, -1, 0, -1, 82);
    }

    /** "NONE of the dead": all are. */
    static void allAreDead() {
        YearHands x = Check.town(people(20, 30) + "odds 100;");
        CHECK.due("both die", x.year(), 2);
        CHECK.due("safest()", x.safest(), 0);
        CHECK.lies("safest()", x, -1, -1);
    }

    /** "By all as it is now": ages behind ACTS, ODDS of the YEAR. */
    static void safestIsByAllAsItIsNow() {
        YearHands x = Check.town(people(20, 30) + "odds year*(age>25);");
        CHECK.due("in YEAR 0", x.safest(), 0);
        CHECK.lies("in YEAR 0", x, 0, 50);
        x.year();
        CHECK.due("in YEAR 1", x.safest(), 1);
        CHECK.lies("in YEAR 1", x, 0, 52);
        x.undo();
        CHECK.due("undone", x.safest(), 0);
        CHECK.lies("undone", x, 0, 50);
    }

    /** "nothing is done": ages lie there alone; what lay there before is gone. */
    static void nothingIsDone() {
        YearHands x = Check.town(people(20, 30));
        x.safest();
        x.safest();
        CHECK.lies("once", x, 0, 50);
        CHECK.due("a", x.person(0, 0), 20);
        CHECK.due("ACTS", x.about(10), 0);
    }

    // ---- BENDS, promise 28

    /** "twice no more than those of the ages beside it together": as much is no more. */
    static void twiceAsMuchIsNoMore() {
        bends("ages 0 to 2;odds 5;", true);
        bends("ages 0 to 2;odds 4-(age=0)+(age=2);", true);
        bends("ages 0 to 2;odds 4-(age=0);", false);
        bends("ages 0 to 2;odds 4+(age=0);", true);
    }

    /** "of each age from LEAST + 1": that age itself. */
    static void bendsFromLeastPlus1() {
        bends("ages 10 to 20;odds 9*(age=11);", false);
        bends("ages 10 to 20;odds 9*(age=15);", false);
    }

    /** "from LEAST + 1": not LEAST, whatever ODDS are there. */
    static void bendsNotOfLeast() {
        bends("ages 10 to 20;odds 9*(age=10);", true);
        bends("odds 9*(age=0);", true);
        bends("ages 10 to 20;odds 50*(age=9)+age;", true);
    }

    /** "to MOST - 1": that age itself. */
    static void bendsToMostMinus1() {
        bends("ages 10 to 20;odds 9*(age=19);", false);
        bends("odds 9*(age=119);", false);
        bends("ages 0 to 150;odds 9*(age=149);", false);
    }

    /** "to MOST - 1": not MOST, whatever ODDS are there. */
    static void bendsNotOfMost() {
        bends("ages 10 to 20;odds 9*(age=20);", true);
        bends("odds 9*(age=120);", true);
        bends("ages 0 to 150;odds 9*(age=150);", true);
    }

    /** "of each age from LEAST + 1 to MOST - 1": with one age, or two, there is none. */
    static void bendsWithoutSuchAges() {
        bends("ages 7 to 7;odds 100;", true);
        bends("ages 7 to 8;odds 100*(age=7);", true);
        bends("ages 7 to 8;odds 100*(age=8);", true);
        bends("ages 7 to 9;odds 100*(age=8);", false);
        bends("ages 0 to 0;odds 100;", true);
        bends("ages 150 to 150;odds 100;", true);
    }

    /** "ODDS": 0 at least, 100 at most. */
    static void bendsByOddsFrom0To100() {
        bends("ages 0 to 100;odds age-50;", true);
        bends("ages 0 to 101;odds age;", false);
        bends("ages 0 to 100;odds age;", true);
        bends("", true);
    }

    /** "ODDS": of the YEAR that is. */
    static void bendsByTheYear() {
        YearHands x = Check.town("odds year*(age=5);");
        CHECK.due("in YEAR 0", x.bends(), true);
        x.year();
        CHECK.due("in YEAR 1", x.bends(), false);
    }
}
