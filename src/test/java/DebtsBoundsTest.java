/** LOANS netted, promises 21 to 23: each sentence that names a boundary case has one test, named after it. */
public final class DebtsBoundsTest {
    private static final Check CHECK = new Check("DebtsBoundsTest");

    public static void main(String[] args) {
        CHECK.runAll(DebtsBoundsTest.class);
    }

    /** Eight PEOPLE of age 60, FRIENDS as pairs of letters; each lends to the other so many years, till a YEAR. */
    private static YearHands lent(String pairs, int till, String more, int... years) {
        StringBuilder text = new StringBuilder();
        for (char name = 'a'; name <= 'h'; name++) {
            text.append("person ").append(name).append(" age 60 coin 0;");
        }
        for (int i = 0; i < pairs.length(); i += 2) {
            String friends = "friend " + pairs.charAt(i) + " to " + pairs.charAt(i + 1) + " price 0;";
            text.append(text.indexOf(friends) < 0 ? friends : "");
        }
        YearHands x = Check.town(text + more);
        for (int i = 0; i < pairs.length() / 2; i++) {
            int from = pairs.charAt(2 * i) - 'a';
            int to = pairs.charAt(2 * i + 1) - 'a';
            CHECK.due("LOAN " + i + " of " + pairs, x.lend(from, to, years[i], till), i);
        }
        return x;
    }

    private static YearHands lent(String pairs, int... years) {
        return lent(pairs, 9, "", years);
    }

    // ---- NET, promise 21

    /** "NET of one by LOANS": without LOANS it is 0. */
    static void withoutLoansNetsAre0() {
        YearHands x = lent("");
        for (int p = 0; p < 8; p++) {
            CHECK.due("net(" + p + ")", x.net(p), 0);
        }
    }

    /** "years that he lent less what he has of others": below 0, 0, above 0. */
    static void netIsYearsLentLessYearsHad() {
        YearHands x = lent("abbcca", 9, 4, 1);
        CHECK.due("net(0)", x.net(0), 8);
        CHECK.due("net(1)", x.net(1), -5);
        CHECK.due("net(2)", x.net(2), -3);
        CHECK.due("net(3)", x.net(3), 0);
        x = lent("abba", 5, 5);
        CHECK.due("as much", x.net(0), 0);
        x = lent("abab", 5, 7);
        CHECK.due("two LOANS", x.net(0), 12);
    }

    /** "GAP if there is none such." */
    static void netOfNobodyIsGap() {
        YearHands x = lent("ab", 5);
        for (int person : new int[] {8, -1, Integer.MIN_VALUE, Integer.MAX_VALUE}) {
            CHECK.due("net(" + person + ")", x.net(person), YearHands.GAP);
        }
        CHECK.due("net of no PERSON told", Check.town("person a age 1 coin 1;").net(1), YearHands.GAP);
    }

    /** "(The dead, too": the NET of one who is dead, and what one lent to him. */
    static void netOfTheDeadToo() {
        YearHands x = lent("abbc", 9, "odds 100*(age=59);", 5, 7);
        CHECK.due("b dies", x.year(), 1);
        CHECK.due("b is dead", x.person(1, 2), 0);
        CHECK.due("net of the dead", x.net(1), 2);
        CHECK.due("of who lent to the dead", x.net(0), 5);
        CHECK.due("of who has of the dead", x.net(2), -7);
    }

    /** "LOANS that are not OVER": till their YEAR comes, then no more, whatever became of them. */
    static void netByLoansThatAreNotOver() {
        YearHands x = lent("ab", 2, "", 5);
        x.year();
        CHECK.due("a YEAR ahead", x.net(0), 5);
        x.year();
        CHECK.due("OVER", x.net(0), 0);
        CHECK.due("OVER", x.net(1), 0);
        x.undo();
        CHECK.due("not OVER", x.net(1), -5);
        x = Check.town("ages 10 to 40;person a age 10 coin 0;person b age 40 coin 0;friend b to a price 0;");
        x.lend(1, 0, 5, 1);
        x.year();
        CHECK.due("a DEFAULT", x.about(9), 1);
        CHECK.due("net behind a DEFAULT", x.net(1), 0);
    }

    // ---- PAYMENTS, promise 22

    /** "PAYMENTS: the fewest": none, if all NETS are 0. */
    static void noPaymentsIfAllNetsAre0() {
        CHECK.due("without LOANS", lent("").payments(), 0);
        CHECK.due("both ways", lent("abba", 5, 5).payments(), 0);
        CHECK.due("in a ring", lent("abbcca", 5, 5, 5).payments(), 0);
    }

    /** "from one to another one": one for two. */
    static void onePaymentForTwo() {
        CHECK.due("one LOAN", lent("ab", 5).payments(), 1);
        CHECK.due("two LOANS", lent("abab", 5, 6).payments(), 1);
        CHECK.due("years that go on", lent("abbc", 5, 5).payments(), 1);
    }

    /** "the fewest .. that settle all NETS": one less than people, seven for eight. */
    static void sevenPaymentsAtMost() {
        CHECK.due("one lends to seven", lent("abacadaeafagah", 1, 2, 3, 4, 5, 6, 7).payments(), 7);
    }

    /** "the fewest": groups that settle within themselves need one less each. */
    static void groupsThatSettleWithinThemselves() {
        CHECK.due("four pairs", lent("abcdefgh", 5, 6, 7, 8).payments(), 4);
        CHECK.due("two of four", lent("abacaedh", 1, 2, 3, 4).payments(), 4);
        // a 5, b -3, c -2, d 4, e -4: three and two.
        CHECK.due("three and two", lent("abacde", 3, 2, 4).payments(), 3);
    }

    /** "the fewest .. of any sizes": by who did not lend to whom. */
    static void paymentsByWhoDidNotLendToWhom() {
        // a 5, b -5 - 3, c 3 + 0: a lends to b 5, c to b 3, b to d 8: a 5, c 3, d -8.
        CHECK.due("two to one", lent("abcbbd", 5, 3, 8).payments(), 2);
        // a 4 and b -4, c 3 and d -3, though a lent to d and c to b.
        CHECK.due("pairs across", lent("adcbab", 3, 3, 1).payments(), 2);
        CHECK.due("all are one group", lent("adcb", 3, 4).payments(), 2);
        CHECK.due("a lent to b and d, c to b", lent("adcbab", 3, 4, 1).payments(), 3);
    }

    /** "settle all NETS": those of the dead, too. */
    static void paymentsOfTheDeadToo() {
        YearHands x = lent("ab", 9, "odds 100*(age=56 or age=66);", 5);
        CHECK.due("both die", x.year(), 2);
        CHECK.due("payments()", x.payments(), 1);
    }

    /** "by LOANS that are not OVER" */
    static void paymentsByLoansThatAreNotOver() {
        YearHands x = lent("ab", 1, "", 5);
        CHECK.due("not OVER", x.payments(), 1);
        x.year();
        CHECK.due("OVER", x.payments(), 0);
    }

    // ---- RING, promise 23

    /** "RING: those from whom .. one comes back to them": none without LOANS, nor by a row. */
    static void noRingWithoutAWayBack() {
        CHECK.due("without LOANS", lent("").ring(), 0);
        CHECK.due("one LOAN", lent("ab", 5).ring(), 0);
        CHECK.due("a row of eight", lent("abbccddeeffggh", 1, 1, 1, 1, 1, 1, 1).ring(), 0);
        CHECK.due("two ways to one", lent("abbcac", 1, 1, 1).ring(), 0);
    }

    /** "one comes back to them": by two, the smallest ring. */
    static void aRingOfTwo() {
        CHECK.due("a and b", lent("abba", 5, 1).ring(), 3);
    }

    /** "one comes back to them": by all eight, as bits. */
    static void aRingOfEight() {
        CHECK.due("all", lent("abbccddeeffgghha", 1, 1, 1, 1, 1, 1, 1, 1).ring(), 255);
        CHECK.due("in the other order", lent("haghfgefdecdbcab", 1, 1, 1, 1, 1, 1, 1, 1).ring(), 255);
    }

    /** "those from whom": not who leads into a ring, nor who is led out of it. */
    static void whoIsBesideARingIsNotInIt() {
        CHECK.due("b and c", lent("abbccbcd", 1, 1, 1, 1).ring(), 2 | 4);
        CHECK.due("two rings, one leads to the other", lent("abbabccddc", 1, 1, 1, 1, 1).ring(), 15);
        CHECK.due("two rings with one between", lent("abbabccddeed", 1, 1, 1, 1, 1, 1).ring(), 1 | 2 | 8 | 16);
    }

    /** "from who lent to who has": years that are as many do not end it. */
    static void aRingThoughNetsAre0() {
        CHECK.due("both ways", lent("abba", 5, 5).ring(), 3);
    }

    /** "(LOANS of and to the dead, too)" */
    static void aRingByTheDeadToo() {
        YearHands x = lent("abbcca", 9, "odds 100*(age=61);", 1, 1, 1);
        CHECK.due("all die", x.year(), 8);
        CHECK.due("ring()", x.ring(), 7);
    }

    /** "by such LOANS": those that are not OVER. */
    static void aRingByLoansThatAreNotOver() {
        YearHands x = lent("abba", 1, "", 5, 1);
        CHECK.due("not OVER", x.ring(), 3);
        x.lend(0, 1, 1, 5);
        x.year();
        CHECK.due("two of them are OVER", x.ring(), 0);
    }
}
