/** Promises 27 and 28: safest, bends. */
public final class OddsTest {
    private static final Check CHECK = new Check("OddsTest");

    public static void main(String[] args) {
        safest();
        first();
        dead();
        bends();
        CHECK.finish();
    }

    private static void safest() {
        YearHands x = Check.town("ages 10 to 40;person a age 20 coin 0;person b age 30 coin 0;odds age * age / 100;");
        // ODDS bend up, so like ages are best: 25 and 25 are 6 and 6; 24 and 26 are 5 and 6; 22 and 28 are 4 and 7.
        CHECK.due("safest()", x.safest(), best(10, 40, 50));
        CHECK.due("a", x.lies(0), firstOf(10, 40, 50));
        CHECK.due("b", x.lies(1), 50 - firstOf(10, 40, 50));
        CHECK.due("nothing is done", x.person(0, 0), 20);
        // Nobody dies at 10: the others must be older.
        x = Check.town("ages 10 to 40;person a age 20 coin 0;person b age 30 coin 0;person c age 20 coin 0;"
            + "odds 50 * (age > 10) - 20 * (age = 40);");
        CHECK.due("safest()", x.safest(), 80);
        CHECK.lies("one young, one at MOST", x, 10, 20, 40);
        x = Check.town("ages 7 to 7;person a age 7 coin 0;person b age 7 coin 0;odds 3;");
        CHECK.due("one age alone", x.safest(), 6);
        CHECK.lies("one age alone", x, 7, 7);
        CHECK.due("nobody", new YearHands().safest(), 0);
        x = Check.town("ages 0 to 150;person a age 150 coin 0;person b age 150 coin 0;person c age 150 coin 0;"
            + "person d age 150 coin 0;person e age 150 coin 0;person f age 150 coin 0;person g age 150 coin 0;"
            + "person h age 149 coin 0;odds age - 60;");
        CHECK.due("the most years", x.safest(), 7 * 90 + 89);
        CHECK.lies("the most years", x, 149, 150, 150, 150, 150, 150, 150, 150);
    }

    private static int odds(int age) {
        return age * age / 100;
    }

    private static int best(int least, int most, int years) {
        int best = 1000;
        for (int age = least; age <= most; age++) {
            if (years - age >= least && years - age <= most) {
                best = Math.min(best, odds(age) + odds(years - age));
            }
        }
        return best;
    }

    private static int firstOf(int least, int most, int years) {
        for (int age = least; age <= most; age++) {
            if (years - age >= least && years - age <= most && odds(age) + odds(years - age) == best(least, most, years)) {
                return age;
            }
        }
        return -1;
    }

    private static void first() {
        YearHands x = Check.town("person a age 20 coin 0;person b age 30 coin 0;person c age 100 coin 0;");
        CHECK.due("without ODDS", x.safest(), 0);
        CHECK.lies("the least ages first", x, 0, 30, 120);
        x.give(0, 1, 1);
        CHECK.due("again", x.safest(), 0);
        CHECK.lies("again", x, 0, 30, 120);
    }

    private static void dead() {
        YearHands x = Check.town("person a age 20 coin 0;person b age 30 coin 0;person c age 100 coin 0;"
            + "odds 100 * (age = 31) + age / 10;draw 999;");
        // SEEDS behind 999: 934 (a, 93), 29 (b, 2), 44 (c, 4): b dies, c too (4 is below 10).
        CHECK.due("year()", x.year(), 2);
        CHECK.due("safest()", x.safest(), 2);
        CHECK.lies("NONE of the dead", x, 21, -1, -1);
    }

    private static void bends() {
        bends("even ODDS", "odds 5;", true);
        bends("none told", "", true);
        bends("a line", "odds age;", true);
        bends("cut at 0 and up", "odds age - 50;", true);
        bends("cut at 100", "odds age + 1;", false);
        bends("up and down", "odds age % 2;", false);
        bends("squares", "odds age * age / 121;", false);
        bends("a step up", "odds age > 49;", false);
        bends("a step at the last", "odds 9 * (age = 99);", true);
        bends("a step at the last but one", "odds 9 * (age = 98);", false);
        bends("at the first", "odds 9 * (age = 0);", true);
        bends("at the second", "odds 9 * (age = 1);", false);
        bends("by the YEAR", "odds 9 * (age = 5) * year;", true);
        YearHands x = Check.town("odds 9 * (age = 5) * year;");
        x.year();
        CHECK.due("in the next YEAR", x.bends(), false);
        CHECK.due("two ages", Check.town("ages 1 to 2;odds 100 * (age = 1);").bends(), true);
        CHECK.due("one age", Check.town("ages 1 to 1;odds 100;").bends(), true);
        CHECK.due("three ages", Check.town("ages 1 to 3;odds (age = 2) * 2 + (age = 1) * 3;").bends(), false);
        CHECK.due("three ages, twice as much", Check.town("ages 1 to 3;odds (age = 2) * 2 + (age = 1) * 4;").bends(), true);
    }

    private static void bends(String what, String odds, boolean due) {
        CHECK.due(what, Check.town("ages 0 to " + (what.equals("cut at 100") ? 120 : 99) + ";" + odds).bends(), due);
    }
}
