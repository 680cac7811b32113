/** Promises 21 to 23: net, payments, ring. */
public final class LoansNettedTest {
    private static final Check CHECK = new Check("LoansNettedTest");

    public static void main(String[] args) {
        nets();
        payments();
        rings();
        dead();
        CHECK.finish();
    }

    /** Eight PEOPLE a to h of age 60, those FRIENDS that are told, as pairs of letters. */
    private static YearHands town(String pairs, String more) {
        StringBuilder text = new StringBuilder();
        for (char name = 'a'; name <= 'h'; name++) {
            text.append("person ").append(name).append(" age 60 coin 0;");
        }
        for (int i = 0; i + 1 < pairs.length(); i += 2) {
            text.append("friend ").append(pairs.charAt(i)).append(" to ").append(pairs.charAt(i + 1)).append(" price 0;");
        }
        return Check.town(text + more);
    }

    private static void lend(YearHands x, String pairs, int... years) {
        for (int i = 0; i < years.length; i++) {
            int from = pairs.charAt(2 * i) - 'a';
            int to = pairs.charAt(2 * i + 1) - 'a';
            CHECK.due("lend " + pairs.substring(2 * i, 2 * i + 2), x.lend(from, to, years[i], 2), i);
        }
    }

    private static void nets() {
        YearHands x = town("abbcca", "");
        CHECK.due("net(0) without LOANS", x.net(0), 0);
        CHECK.due("payments()", x.payments(), 0);
        CHECK.due("ring()", x.ring(), 0);
        lend(x, "abbcca", 9, 4, 1);
        CHECK.due("net(0)", x.net(0), 8);
        CHECK.due("net(1)", x.net(1), -5);
        CHECK.due("net(2)", x.net(2), -3);
        CHECK.due("net(3)", x.net(3), 0);
        CHECK.due("net(8)", x.net(8), YearHands.GAP);
        CHECK.due("net(-1)", x.net(-1), YearHands.GAP);
        x.year();
        CHECK.due("net(0) while they last", x.net(0), 8);
        x.year();
        CHECK.due("net(0) when they are OVER", x.net(0), 0);
        CHECK.due("payments()", x.payments(), 0);
        CHECK.due("ring()", x.ring(), 0);
        x.undo();
        CHECK.due("net(0) when it is undone", x.net(0), 8);
    }

    private static void payments() {
        YearHands x = town("abcdef", "");
        lend(x, "abcdef", 5, 7, 9);
        CHECK.due("three pairs", x.payments(), 3);
        x = town("abbccd", "");
        lend(x, "abbccd", 5, 5, 5);
        CHECK.due("by others nobody owes", x.payments(), 1);
        // NETS 6, -1, -2, -3, 4, -4: a group of four and a group of two.
        x = town("abacadef", "");
        lend(x, "abacadef", 1, 2, 3, 4);
        CHECK.due("groups of four and of two", x.payments(), 4);
        // NETS 5, 4, -3, -6, 2, -2: greedily 5 would pay 6; 4, 2, -6 and 5, -3, -2 settle among themselves.
        x = town("acafbded", "");
        lend(x, "acafbded", 3, 2, 4, 2);
        CHECK.due("groups across one another", x.payments(), 4);
        // a to h: one against seven.
        x = town("abacadaeafagah", "");
        lend(x, "abacadaeafagah", 1, 2, 3, 4, 5, 6, 7);
        CHECK.due("one against seven", x.payments(), 7);
        x = town("abbccdda", "");
        lend(x, "abbccdda", 3, 3, 3, 3);
        CHECK.due("a ring of like LOANS", x.payments(), 0);
    }

    private static void rings() {
        YearHands x = town("abbccaadde", "");
        lend(x, "ab", 1);
        CHECK.due("one way", x.ring(), 0);
        x = town("abbccaadde", "");
        lend(x, "abbcadde", 1, 1, 1, 1);
        CHECK.due("no way back", x.ring(), 0);
        x = town("abbccaadde", "");
        lend(x, "abbcaddeca", 1, 1, 1, 1, 1);
        CHECK.due("a, b and c", x.ring(), 7);
        x = town("abbaghhg", "");
        lend(x, "abbaghhg", 1, 1, 1, 1);
        CHECK.due("two rings", x.ring(), 3 | 192);
        x = town("hggffeeddccbbaah", "");
        lend(x, "hggffeeddccbbaah", 1, 1, 1, 1, 1, 1, 1, 1);
        CHECK.due("all", x.ring(), 255);
    }

    private static void dead() {
        YearHands x = town("abbccd", "odds 100 * (age = 61);");
        lend(x, "abbccd", 5, 5, 4);
        // a 55, b 60, c 61, d 64: b dies at 61.
        CHECK.due("year()", x.year(), 5);
        CHECK.due("b is dead", x.person(1, 2), 0);
        CHECK.due("net of the living", x.net(0), 5);
        CHECK.due("net of the dead", x.net(1), 0);
        CHECK.due("payments()", x.payments(), 2);
        x = town("abba", "odds 100 * (age = 62);");
        lend(x, "abba", 3, 2);
        x.year();
        CHECK.due("b is dead", x.about(7) & 3, 1);
        CHECK.due("net of the dead", x.net(1), -1);
        CHECK.due("payments of the dead", x.payments(), 1);
        CHECK.due("a RING with the dead", x.ring(), 3);
    }
}
