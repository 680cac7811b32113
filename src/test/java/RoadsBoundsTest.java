/** TARGETS and ROADS, promises 16 to 20: each sentence that names a boundary case has one test, named after it. */
public final class RoadsBoundsTest {
    private static final Check CHECK = new Check("RoadsBoundsTest");
    private static final int[] FAR_OFF = {-1, Integer.MIN_VALUE, Integer.MAX_VALUE};
    private static final String THREE = "ages 10 to 60;person a age 30 coin 0;person b age 20 coin 0;person c age 50 coin 0;";
    /** Years go from a to b at 2, from b to c at 3. */
    private static final String TOWN = THREE + "friend a to b price 2;friend b to c price 3;";

    public static void main(String[] args) {
        CHECK.runAll(RoadsBoundsTest.class);
    }

    private static YearHands targets(String town, int... ages) {
        YearHands x = Check.town(town);
        for (int p = 0; p < ages.length; p++) {
            if (ages[p] >= 0) {
                x.target(p, ages[p]);
            }
        }
        return x;
    }

    private static int cheapest(String town, int... ages) {
        return targets(town, ages).cheapest();
    }

    private static int barred(String town, int... ages) {
        return targets(town, ages).barred();
    }

    /** Eight PEOPLE in a row, each of whom gives to the next one at a price. */
    private static String row(String ages, int price) {
        StringBuilder text = new StringBuilder(ages);
        for (char p = 'a'; p <= 'h'; p++) {
            text.append("person ").append(p).append(" age ").append(p == 'a' ? 150 : p == 'h' ? 0 : 75).append(" coin 0;");
        }
        for (char p = 'a'; p < 'h'; p++) {
            text.append("friend ").append(p).append(" to ").append((char) (p + 1)).append(" price ").append(price).append(';');
        }
        return text.toString();
    }

    // ---- promises 16 and 17

    /** "A TARGET ..: how many there are" */
    static void targetAnswersHowManyThereAre() {
        YearHands x = Check.town(row("ages 0 to 150;", 0));
        for (int p = 7; p >= 0; p--) {
            CHECK.due("target(" + p + ", 50)", x.target(p, 50), 8 - p);
        }
        CHECK.due("about(12)", x.about(12), 8);
    }

    /** "(in place of another one of him)" */
    static void aTargetInPlaceOfAnotherOne() {
        YearHands x = Check.town(TOWN);
        x.target(0, 29);
        x.target(1, 21);
        CHECK.due("a again", x.target(0, 28), 2);
        CHECK.due("the other one is no matter", x.cheapest(), -1);
        CHECK.due("a as before", x.target(0, 29), 2);
        CHECK.due("cheapest()", x.cheapest(), 2);
    }

    /** "NONE, doing nothing, if one can't be (an age LEAST .. MOST)": these two can be. */
    static void aTargetIsAnAgeFromLeastToMost() {
        YearHands x = Check.town(TOWN);
        CHECK.due("LEAST", x.target(0, 10), 1);
        CHECK.due("MOST", x.target(1, 60), 2);
    }

    /** "NONE, doing nothing, if one can't be": an age beside LEAST, MOST; the TARGET before stays. */
    static void aTargetOfAnotherAgeIsNone() {
        YearHands x = targets(TOWN, 29, 21);
        CHECK.due("below LEAST", x.target(0, 9), -1);
        CHECK.due("above MOST", x.target(0, 61), -1);
        for (int age : FAR_OFF) {
            CHECK.due("target(0, " + age + ")", x.target(0, age), -1);
        }
        CHECK.due("none of c", x.target(2, 61), -1);
        CHECK.due("about(12)", x.about(12), 2);
        CHECK.due("cheapest()", x.cheapest(), 2);
    }

    /** "NONE, doing nothing, if one can't be": nobody. */
    static void aTargetOfNobodyIsNone() {
        YearHands x = Check.town(TOWN);
        for (int person : FAR_OFF) {
            CHECK.due("target(" + person + ", 30)", x.target(person, 30), -1);
        }
        CHECK.due("target(3, 30)", x.target(3, 30), -1);
        CHECK.due("target(8, 30)", x.target(8, 30), -1);
        CHECK.due("about(12)", x.about(12), 0);
    }

    /** "There are no TARGETS: how many there were.": none, one, all. */
    static void hushAnswersHowManyThereWere() {
        YearHands x = Check.town(TOWN);
        CHECK.due("none", x.hush(), 0);
        x.target(1, 30);
        CHECK.due("one", x.hush(), 1);
        CHECK.due("about(12)", x.about(12), 0);
        CHECK.due("none again", x.hush(), 0);
        x = targets(TOWN, 29, 21, 50);
        CHECK.due("all", x.hush(), 3);
        CHECK.due("cheapest() without TARGETS", x.cheapest(), 0);
        CHECK.due("one again", x.target(0, 29), 1);
    }

    // ---- CHEAPEST, promise 18

    /** "TARGETS: PEOPLE are to be of told ages": without one all is so. */
    static void withoutTargetsNothingGoes() {
        CHECK.due("cheapest()", cheapest(TOWN), 0);
        CHECK.due("ages as they are", cheapest(TOWN, 30, 20, 50), 0);
    }

    /** "all others as they are" */
    static void allOthersAreAsTheyAre() {
        CHECK.due("a alone", cheapest(TOWN, 29), -1);
        CHECK.due("a and b", cheapest(TOWN, 29, 21), 2);
        CHECK.due("b and c", cheapest(TOWN, -1, 19, 51), 3);
        CHECK.due("a and c, b as he is", cheapest(TOWN, 29, -1, 51), 5);
    }

    /** "NONE if it can't be": one year too many, one too few. */
    static void cheapestIsNoneIfYearsAreNotAsMany() {
        CHECK.due("one too many", cheapest(TOWN, 29, 22), -1);
        CHECK.due("one too few", cheapest(TOWN, 28, 21), -1);
        CHECK.due("as many", cheapest(TOWN, 28, 22), 4);
    }

    /** "NONE if it can't be": no ROAD goes there. */
    static void cheapestIsNoneWithoutARoad() {
        CHECK.due("the other way", cheapest(TOWN, 31, 19), -1);
        CHECK.due("the other way of two", cheapest(TOWN, 31, -1, 49), -1);
        CHECK.due("without FRIENDS", cheapest(THREE, 29, 21), -1);
        CHECK.due("one year of two", cheapest(THREE + "friend a to b price 1;", 28, 21, 51), -1);
    }

    /** "of GIFTS one behind the other": by all of eight PEOPLE. */
    static void aRoadGoesByAllPeople() {
        CHECK.due("seven GIFTS", cheapest(row("ages 0 to 150;", 99), 149, -1, -1, -1, -1, -1, -1, 1), 7 * 99);
    }

    /** "the fewest prices together": the most that they can be, 150 years by seven GIFTS of 99. */
    static void theMostYearsByTheLongestRoad() {
        CHECK.due("150 years", cheapest(row("ages 0 to 150;", 99), 0, -1, -1, -1, -1, -1, -1, 150), 150 * 7 * 99);
    }

    /** "of GIFTS one behind the other, the fewest together": straight or not. */
    static void theFewestPricesOfARoad() {
        CHECK.due("straight is dearer", cheapest(TOWN + "friend a to c price 6;", 29, -1, 51), 5);
        CHECK.due("straight is as dear", cheapest(TOWN + "friend a to c price 5;", 29, -1, 51), 5);
        CHECK.due("straight is cheaper", cheapest(TOWN + "friend a to c price 4;", 29, -1, 51), 4);
        CHECK.due("for nothing", cheapest(TOWN + "friend a to c price 0;", 20, -1, 60), 0);
    }

    /** "the fewest prices together": though one pays more for it. */
    static void theFewestPricesOfAllTogether() {
        String town = "person a age 5 coin 0;person b age 5 coin 0;person c age 0 coin 0;person d age 0 coin 0;"
            + "friend a to c price 1;friend a to d price 2;friend b to c price 3;friend b to d price 5;";
        CHECK.due("a to d, b to c", cheapest(town, 0, 0, 5, 5), 5 * 2 + 5 * 3);
        CHECK.due("one a to c", cheapest(town, 0, 0, 6, 4), 1 + 4 * 2 + 5 * 3);
    }

    /** "the fewest prices together": who has a cheap way leaves it to one who has none, one year or more. */
    static void theNearestIsNotTheCheapest() {
        String friends = "friend a to c price 1;friend a to d price 2;friend b to c price 3;friend b to d price 90;";
        for (int years : new int[] {1, 5}) {
            String town = people(years, years, 0, 0) + friends;
            CHECK.due("a to d, b to c", cheapest(town, 0, 0, years, years), years * 5);
        }
        CHECK.due("some to both", cheapest(people(5, 5, 0, 0) + friends, 0, 0, 7, 3), 3 * 2 + 2 * 1 + 5 * 3);
        CHECK.due("no more than there are", cheapest(people(2, 6, 0, 0) + friends, 0, 0, 3, 5), 2 * 2 + 3 * 3 + 3 * 90);
        CHECK.due("not all by one", cheapest(people(3, 4, 0, 0) + friends, 0, 0, 7, 0), 3 * 1 + 4 * 3);
    }

    private static String people(int... ages) {
        StringBuilder text = new StringBuilder();
        for (int p = 0; p < ages.length; p++) {
            text.append("person ").append((char) ('a' + p)).append(" age ").append(ages[p]).append(" coin 0;");
        }
        return text.toString();
    }

    /** "(..; nothing is done": what went in an earlier question is no matter to the next. */
    static void anEarlierQuestionIsNoMatter() {
        YearHands x = Check.town(people(9, 9) + "friend a to b price 5;friend b to a price 7;");
        x.target(0, 4);
        x.target(1, 14);
        CHECK.due("from a to b", x.cheapest(), 25);
        x.target(0, 14);
        x.target(1, 4);
        CHECK.due("from b to a", x.cheapest(), 35);
        x.target(0, 4);
        x.target(1, 14);
        CHECK.due("from a to b again", x.cheapest(), 25);
    }

    /** "Prices of a year's ROAD from one to another one": whatever the way back costs. */
    static void aRoadIsNotTheWayBack() {
        String town = THREE + "friend a to b price 2;friend b to c price 3;friend c to a price %d;right r age=51;right s age=31;";
        for (int back : new int[] {1, 4, 5, 6, 99}) {
            YearHands x = Check.town(town.replace("%d", "" + back));
            CHECK.due("b to c", x.reach(2, 0, 0), 3);
            CHECK.due("c to a, back at " + back, x.reach(0, 1, 0), back);
            x = Check.town(town.replace("%d", "" + back).replace("age 20", "age 10"));
            CHECK.due("a to c by b, back at " + back, x.reach(2, 0, 0), 5);
        }
    }

    /** "of GIFTS one behind the other": by the first of PEOPLE, from him, to him. */
    static void aRoadByTheFirstPerson() {
        String town = "ages 10 to 60;person a age %d coin 0;person b age 20 coin 0;person c age 50 coin 0;"
            + "friend b to a price 2;friend a to c price 3;right r age=51;";
        YearHands x = Check.town(town.replace("%d", "10"));
        CHECK.due("by a, who has none", x.reach(2, 0, 0), 5);
        x.target(2, 60);
        CHECK.due("barred()", x.barred(), 0);
        x = Check.town(town.replace("%d", "11"));
        CHECK.due("from a", x.reach(2, 0, 0), 3);
        x = Check.town("ages 10 to 60;person a age 30 coin 0;person b age 10 coin 0;person c age 50 coin 0;"
            + "friend c to b price 2;friend b to a price 3;right r age=31;right s age=49;");
        CHECK.due("to a by b", x.reach(0, 0, 0), 5);
        CHECK.due("c gives to b", x.reach(2, 1, 0), 2);
        x = Check.town("ages 10 to 60;person a age 30 coin 0;person b age 60 coin 0;person c age 50 coin 0;"
            + "friend c to b price 2;friend b to a price 3;right s age=49;");
        CHECK.due("c gives to a by b, who is at MOST", x.reach(2, 0, 0), 5);
        x = Check.town("ages 10 to 60;person a age 10 coin 0;person b age 60 coin 0;friend b to a price 3;right s age=59;");
        CHECK.due("b gives to a, who is at LEAST", x.reach(1, 0, 0), 3);
    }

    /** "of GIFTS one behind the other": in whatever order FRIENDS were told, and from whomever. */
    static void aRoadInWhateverOrderFriendsWereTold() {
        String town = people(30, 30, 30, 30) + "friend c to a price 3;friend b to c price 2;friend d to b price 1;friend a to d price 9;";
        CHECK.due("from d to a", cheapest(town, 31, -1, -1, 29), 6);
        CHECK.due("from a to c", cheapest(town, 29, -1, 31, -1), 9 + 1 + 2);
        CHECK.due("from b to d", cheapest(town, -1, 29, -1, 31), 2 + 3 + 9);
    }

    /** "one to another one": of eight PEOPLE in a ring to each from each. */
    static void aRoadFromEachToEach() {
        StringBuilder text = new StringBuilder("ages 0 to 150;" + people(75, 75, 75, 75, 75, 75, 75, 75));
        for (int p = 7; p >= 0; p--) {
            text.append("friend ").append((char) ('a' + p)).append(" to ").append((char) ('a' + (p + 1) % 8));
            text.append(" price ").append(10 + p).append(';');
        }
        for (int from = 0; from < 8; from++) {
            int price = 0;
            for (int i = 1; i < 8; i++) {
                price += 10 + (from + i - 1) % 8;
                int to = (from + i) % 8;
                int[] ages = {-1, -1, -1, -1, -1, -1, -1, -1};
                ages[from] = 74;
                ages[to] = 76;
                CHECK.due("from " + from + " to " + to, cheapest(text.toString(), ages), price);
            }
        }
        for (int p = 0; p < 8; p++) {
            YearHands x = Check.town(text + "right r age=76;right s age=74;right t age=150;right u age=0;");
            CHECK.due("one more for " + p, x.reach(p, 0, 0), 10 + (p + 7) % 8);
            CHECK.due("one less for " + p, x.reach(p, 1, 0), 10 + p);
            CHECK.due("all of one for " + p, x.reach(p, 2, 0), 75 * (10 + (p + 7) % 8));
            CHECK.due("all to one from " + p, x.reach(p, 3, 0), 75 * (10 + p));
        }
    }

    /** "(coins, ages between are no matter)": nobody has a coin. */
    static void coinsAreNoMatterToTheCheapest() {
        CHECK.due("without coins", cheapest("person a age 9 coin 0;person b age 9 coin 0;friend a to b price 99;", 0, 18), 9 * 99);
    }

    /** "(coins, ages between are no matter)": years go by one at MOST, by one at LEAST. */
    static void agesBetweenAreNoMatterToTheCheapest() {
        String town = "ages 10 to 30;person a age 30 coin 0;person b age %d coin 0;person c age 10 coin 0;"
            + "friend a to b price 1;friend b to c price 1;";
        CHECK.due("by one at MOST", cheapest(town.replace("%d", "30"), 10, -1, 30), 40);
        CHECK.due("by one at LEAST", cheapest(town.replace("%d", "10"), 10, -1, 30), 40);
    }

    /** "(those of the dead are no matter)" */
    static void targetsOfTheDeadAreNoMatter() {
        YearHands x = targets(TOWN + "odds 100*(age=51);", 30, 22, 10);
        CHECK.due("c dies", x.year(), 1);
        CHECK.due("a gives one of 31", x.cheapest(), 2);
        CHECK.due("nobody is barred", x.barred(), 0);
        CHECK.due("TARGETS", x.about(12), 3);
    }

    /** "PEOPLE that are alive": no ROAD goes by the dead. */
    static void noRoadGoesByTheDead() {
        YearHands x = targets(TOWN + "odds 100*(age=21);right r age=55;", 30, -1, 52);
        CHECK.due("b dies", x.year(), 1);
        CHECK.due("cheapest()", x.cheapest(), -1);
        CHECK.due("barred()", x.barred(), 1 | 4);
        CHECK.due("reach(2, 0, 0)", x.reach(2, 0, 0), -1);
    }

    /** "By all as it is now": ages behind ACTS. */
    static void targetsAreReckonedByAgesNow() {
        YearHands x = targets(TOWN.replace("coin 0", "coin 9"), 28, 22);
        CHECK.due("two years", x.cheapest(), 4);
        x.give(0, 1, 1);
        CHECK.due("one year", x.cheapest(), 2);
        x.give(0, 1, 1);
        CHECK.due("none", x.cheapest(), 0);
    }

    /** "By all as it is now": others give and take from the ages that they are of behind ACTS. */
    static void barredAndReachAreByAgesNow() {
        YearHands x = Check.town("ages 10 to 60;person a age 30 coin 0;person b age 20 coin 0;person c age 50 coin 0;person d age 55 coin 0;"
            + "friend a to b price 1;friend b to c price 1;friend d to a price 0;friend a to d price 0;right r age=50;right s age=20;");
        x.target(1, 50);
        CHECK.due("a and d can give 65", x.barred(), 0);
        CHECK.due("b from 20 to 50", x.reach(1, 0, 0), 30);
        x.give(0, 3, 5);
        CHECK.due("a gave 5 to d", x.reach(1, 0, 0), 30);
        x = Check.town("ages 10 to 60;person a age 30 coin 0;person b age 20 coin 0;friend a to b price 1;friend b to a price 0;"
            + "right r age=40;right s age=60;right t age=10;");
        CHECK.due("all that a has", x.reach(1, 0, 0), 20);
        x.give(1, 0, 5);
        CHECK.due("all that a has now", x.reach(1, 0, 0), 25);
        x.target(1, 41);
        CHECK.due("one more", x.barred(), 2);
        x.year();
        CHECK.due("one more, a YEAR later", x.barred(), 0);
        CHECK.due("b is 16", x.reach(1, 0, 0), 24);
        x = Check.town("ages 10 to 60;person a age 50 coin 0;person b age 55 coin 0;friend a to b price 1;friend b to a price 0;"
            + "right r age=44;");
        CHECK.due("b can take five alone", x.reach(0, 0, 0), -1);
        x.give(1, 0, 1);
        CHECK.due("b can take six now, a lacks seven", x.reach(0, 0, 0), -1);
        x.target(0, 45);
        CHECK.due("six can go", x.barred(), 0);
        x.target(0, 44);
        CHECK.due("seven can't", x.barred(), 1);
    }

    /** "(those of the dead are no matter)": yet one can be told of the dead. */
    static void aTargetOfTheDeadCanBe() {
        YearHands x = Check.town(TOWN + "odds 100*(age=51);");
        CHECK.due("c dies", x.year(), 1);
        CHECK.due("target(2, 10)", x.target(2, 10), 1);
        CHECK.due("cheapest()", x.cheapest(), 0);
        CHECK.due("barred()", x.barred(), 0);
        CHECK.due("hush()", x.hush(), 1);
    }

    /** "nothing is done": by CHEAPEST, BARRED, REACH. */
    static void nothingIsDone() {
        YearHands x = targets(TOWN + "right r age>59;", 29, 21);
        x.cheapest();
        x.barred();
        x.reach(2, 0, 0);
        CHECK.due("a", x.person(0, 0), 30);
        CHECK.due("b", x.person(1, 0), 20);
        CHECK.due("c", x.person(2, 0), 50);
        CHECK.due("ACTS", x.about(10), 0);
        CHECK.due("TARGETS", x.about(12), 2);
        CHECK.due("what lies there", x.about(17), 0);
        CHECK.due("the same again", x.cheapest(), 2);
    }

    // ---- BARRED, promise 19

    /** "PEOPLE with TARGETS who ..": without one nobody is. */
    static void withoutTargetsNobodyIsBarred() {
        CHECK.due("no TARGETS", barred(THREE), 0);
        CHECK.due("others without", barred(THREE, 31), 1);
    }

    /** "can't be of that age": as he is he can be, also if nobody gives or takes. */
    static void asOneIsHeIsNotBarred() {
        CHECK.due("as they are", barred(THREE, 30, 20, 50), 0);
        CHECK.due("one more, one less", barred(THREE, 31, 19, 50), 1 | 2);
    }

    /** "all others of whatever age from LEAST ..": they give down to LEAST, no further. */
    static void othersGiveDownToLeast() {
        String town = "ages 10 to 60;person a age 13 coin 0;person b age 12 coin 0;person c age 20 coin 0;"
            + "friend a to b price 1;friend b to c price 1;";
        CHECK.due("all that they have", barred(town, -1, -1, 25), 0);
        CHECK.due("one more", barred(town, -1, -1, 26), 4);
        CHECK.due("b by a alone", barred(town, -1, 15), 0);
        CHECK.due("b by one more", barred(town, -1, 16), 2);
    }

    /** "all others of whatever age .. to MOST": they take up to MOST, no further. */
    static void othersTakeUpToMost() {
        String town = "ages 10 to 60;person a age 30 coin 0;person b age 57 coin 0;person c age 58 coin 0;"
            + "friend a to b price 1;friend b to c price 1;";
        CHECK.due("all that they can", barred(town, 25), 0);
        CHECK.due("one more", barred(town, 24), 1);
        CHECK.due("b to c alone", barred(town, -1, 55), 0);
        CHECK.due("b, one more", barred(town, -1, 54), 2);
    }

    /** "all others": nobody gives to himself, though a ROAD leads back to him. */
    static void nobodyGivesToHimself() {
        String town = "ages 10 to 60;person a age 30 coin 0;person b age 15 coin 0;friend a to b price 1;friend b to a price 2;"
            + "right r age=35;right s age=36;right t age=10;";
        CHECK.due("all that b has", barred(town, 35), 0);
        CHECK.due("one more", barred(town, 36), 1);
        CHECK.due("a to LEAST", barred(town, 10), 0);
        YearHands x = Check.town(town);
        CHECK.due("all that b has", x.reach(0, 0, 0), 10);
        CHECK.due("one more", x.reach(0, 1, 0), -1);
        CHECK.due("a to LEAST", x.reach(0, 2, 0), 20);
        x = targets(town.replace("b age 15", "b age 58"), 28);
        CHECK.due("all that b can take", x.barred(), 0);
        x.target(0, 27);
        CHECK.due("one more", x.barred(), 1);
    }

    /** "from LEAST to MOST": 0 and 150, the least and the most that there are. */
    static void barredAndReachAtAges0And150() {
        String town = "ages 0 to 150;" + people(149, 150, 1, 0) + "friend a to b price 7;friend d to c price 7;"
            + "right r age=150;right s age=0;";
        CHECK.due("nobody gives to a, takes of c", barred(town, 150, -1, 0), 1 | 4);
        CHECK.due("as they are", barred(town, -1, 150, -1, 0), 0);
        YearHands x = Check.town(town);
        CHECK.due("a", x.reach(0, 0, 0), -1);
        CHECK.due("c", x.reach(2, 1, 0), -1);
        CHECK.due("b", x.reach(1, 0, 1), 150);
        CHECK.due("d", x.reach(3, 1, 1), 0);
        x = Check.town(town.replace("a to b", "b to a").replace("d to c", "c to d"));
        CHECK.due("a takes one of b", x.reach(0, 0, 0), 7);
        CHECK.due("c gives one to d", x.reach(2, 1, 0), 7);
    }

    /** "all others": whatever their own TARGETS are. */
    static void targetsOfOthersDoNotBar() {
        CHECK.due("all want more", barred(TOWN, 30, 40, 60), 0);
        CHECK.due("cheapest() can't be", cheapest(TOWN, 30, 40, 60), -1);
    }

    /** "as bits": the first is 1, the eighth 128. */
    static void barredAsBits() {
        String town = row("ages 0 to 150;", 1);
        CHECK.due("a takes of nobody, h gives to nobody", barred(town.replace("a age 150", "a age 75"), 76), 1);
        CHECK.due("h", barred(town.replace("h age 0", "h age 75"), -1, -1, -1, -1, -1, -1, -1, 74), 128);
        CHECK.due("by seven others", barred(town, -1, -1, -1, -1, -1, -1, -1, 150), 0);
    }

    /** "from LEAST to MOST": where there is one age alone nobody can give. */
    static void withOneAgeAloneNobodyCanGive() {
        String town = "ages 7 to 7;person a age 7 coin 0;person b age 7 coin 0;friend a to b price 0;right r 1;right s age>7;";
        YearHands x = targets(town, 7, 7);
        CHECK.due("barred()", x.barred(), 0);
        CHECK.due("cheapest()", x.cheapest(), 0);
        CHECK.due("reach(0, 0, 0)", x.reach(0, 0, 0), 0);
        CHECK.due("reach(0, 0, 1)", x.reach(0, 0, 1), 7);
        CHECK.due("reach(0, 1, 0)", x.reach(0, 1, 0), -1);
    }

    // ---- REACH, promise 20

    /** "the fewest prices together by which one HAS it": none, if he HAS it. */
    static void whoHasARightReachesItForNothing() {
        YearHands x = Check.town(TOWN + "right r age>19;");
        CHECK.due("prices", x.reach(0, 0, 0), 0);
        CHECK.due("age", x.reach(0, 0, 1), 30);
    }

    /** "the fewest prices": by more years that cost less. */
    static void reachIsTheFewestPricesNotYears() {
        String town = THREE + "friend a to b price 1;friend c to a price 5;right r age=31 or age=26;";
        YearHands x = Check.town(town);
        CHECK.due("four years less at 1", x.reach(0, 0, 0), 4);
        CHECK.due("age", x.reach(0, 0, 1), 26);
        x = Check.town(town.replace("c to a price 5", "c to a price 3"));
        CHECK.due("one year more at 3", x.reach(0, 0, 0), 3);
        CHECK.due("age", x.reach(0, 0, 1), 31);
    }

    /** "the least such age of these": of like prices. */
    static void theLeastAgeOfLikePrices() {
        YearHands x = Check.town(THREE + "friend a to b price 1;friend c to a price 2;right r age=31 or age=28;");
        CHECK.due("both cost 2", x.reach(0, 0, 0), 2);
        CHECK.due("the least age", x.reach(0, 0, 1), 28);
        x = Check.town(THREE + "friend a to b price 0;friend c to a price 0;right r age>0;");
        CHECK.due("all for nothing", x.reach(0, 0, 0), 0);
        CHECK.due("LEAST", x.reach(0, 0, 1), 10);
    }

    /** "(by his age then; coins no matter)": prices are not paid. */
    static void coinsAreNoMatterToReach() {
        YearHands x = Check.town("person a age 30 coin 0;person b age 20 coin 9;friend a to b price 99;"
            + "right r age=25 and coin=9;right s age=25 and coin<9;right t age=25 and coin=0;");
        CHECK.due("with the coin that he has", x.reach(1, 0, 0), 5 * 99);
        CHECK.due("with another coin", x.reach(1, 1, 0), -1);
        CHECK.due("who gives, with his coin", x.reach(0, 2, 0), 5 * 99);
    }

    /** "all others of ages from LEAST ..": the nearest first, down to LEAST, then the next. */
    static void reachTakesDownToLeast() {
        String town = "ages 10 to 60;person a age 13 coin 0;person b age 12 coin 0;person c age 20 coin 0;"
            + "friend a to b price 1;friend b to c price 4;right r age=22;right s age=23;right t age=25;right u age=26;";
        YearHands x = Check.town(town);
        CHECK.due("two of b", x.reach(2, 0, 0), 8);
        CHECK.due("and one of a", x.reach(2, 1, 0), 8 + 5);
        CHECK.due("and all of a", x.reach(2, 2, 0), 8 + 15);
        CHECK.due("one more", x.reach(2, 3, 0), -1);
        CHECK.due("age", x.reach(2, 2, 1), 25);
        CHECK.due("no age", x.reach(2, 3, 1), -1);
    }

    /** "all others of ages .. to MOST": the nearest first, up to MOST, then the next. */
    static void reachGivesUpToMost() {
        String town = "ages 10 to 60;person a age 30 coin 0;person b age 57 coin 0;person c age 58 coin 0;"
            + "friend a to b price 1;friend b to c price 4;right r age=27;right s age=26;right t age=25;right u age=24;";
        YearHands x = Check.town(town);
        CHECK.due("three to b", x.reach(0, 0, 0), 3);
        CHECK.due("and one to c", x.reach(0, 1, 0), 3 + 5);
        CHECK.due("and two to c", x.reach(0, 2, 0), 3 + 10);
        CHECK.due("one more", x.reach(0, 3, 0), -1);
        CHECK.due("age", x.reach(0, 2, 1), 25);
    }

    /** "by his age then": from LEAST to MOST, too. */
    static void reachIsOfAnAgeFromLeastToMost() {
        String town = "ages 10 to 60;person a age 55 coin 0;person b age 55 coin 0;person c age 15 coin 0;person d age 15 coin 0;"
            + "friend a to b price 1;friend c to d price 1;right r age=60;right s age>60;right t age=10;right u age<10;";
        YearHands x = Check.town(town);
        CHECK.due("MOST", x.reach(1, 0, 0), 5);
        CHECK.due("above MOST", x.reach(1, 1, 0), -1);
        CHECK.due("LEAST", x.reach(2, 2, 0), 5);
        CHECK.due("below LEAST", x.reach(2, 3, 0), -1);
    }

    /** "what 0: prices, 1: the age; NONE if it can't be": for another what. */
    static void anotherWhatOfReachIsNone() {
        YearHands x = Check.town(TOWN + "right r 1;");
        CHECK.due("reach(0, 0, 2)", x.reach(0, 0, 2), -1);
        for (int what : FAR_OFF) {
            CHECK.due("reach(0, 0, " + what + ")", x.reach(0, 0, what), -1);
        }
    }

    /** "NONE if .. he is dead" */
    static void reachOfTheDeadIsNone() {
        YearHands x = Check.town(TOWN + "right r 1;odds 100*(age=31);");
        CHECK.due("a dies", x.year(), 1);
        CHECK.due("prices", x.reach(0, 0, 0), -1);
        CHECK.due("age", x.reach(0, 0, 1), -1);
        CHECK.due("of the living", x.reach(1, 0, 1), 21);
    }

    /** "NONE if .. one can't be": nobody, no RIGHT. */
    static void reachOfNobodyOrNoRightIsNone() {
        YearHands x = Check.town(TOWN + "right r 1;");
        CHECK.due("nobody", x.reach(3, 0, 0), -1);
        CHECK.due("no RIGHT", x.reach(0, 1, 0), -1);
        CHECK.due("no RIGHT", x.reach(0, 6, 1), -1);
        for (int number : FAR_OFF) {
            CHECK.due("reach(" + number + ", 0, 0)", x.reach(number, 0, 0), -1);
            CHECK.due("reach(0, " + number + ", 0)", x.reach(0, number, 0), -1);
        }
    }

    /** "by which one HAS it": by the YEAR and the family that are. */
    static void reachIsByTheYearAndFamilyNow() {
        YearHands x = Check.town(THREE.replace("b age 20 coin 0", "b age 20 coin 0 family 2")
            + "friend a to b price 1;right r age=25 and year=1 and family=2;");
        CHECK.due("in YEAR 0", x.reach(1, 0, 0), -1);
        x.year();
        CHECK.due("in YEAR 1", x.reach(1, 0, 0), 4);
    }
}
