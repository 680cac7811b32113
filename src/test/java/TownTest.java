/** Promises 1 to 5 and 41: a new object, the TAPE, a TOWN told, its FAULTS, about. */
public final class TownTest {
    private static final Check CHECK = new Check("TownTest");
    private static final String TWO = "person a age 1 coin 0;person b age 2 coin 0;";

    public static void main(String[] args) {
        newObject();
        tape();
        behindTheEnd();
        told();
        resets();
        tokens();
        lines();
        numbers();
        names();
        formulas();
        limits();
        CHECK.finish();
    }

    private static void newObject() {
        YearHands x = new YearHands();
        int[] due = {0, 0, 0, 0, 120, 0, 0, 0, 0, 0, 0, 0, 0, 0, 0, 0, 0, 0};
        for (int what = 0; what < due.length; what++) {
            CHECK.due("new: about(" + what + ")", x.about(what), due[what]);
        }
        CHECK.due("new: about(18)", x.about(18), -1);
        CHECK.due("new: about(-1)", x.about(-1), -1);
        CHECK.due("new: fault(0)", x.fault(0), 0);
        CHECK.due("new: fault(1)", x.fault(1), -1);
        CHECK.due("new: lies(0)", x.lies(0), YearHands.GAP);
        CHECK.due("new: undo()", x.undo(), false);
        CHECK.due("new: redo()", x.redo(), false);
        CHECK.due("new: back(0)", x.back(0), -1);
        CHECK.due("new: end(0)", x.end(0), 0);
        CHECK.due("new: town()", x.town(), 0);
        CHECK.due("NONE", YearHands.NONE, -1);
        CHECK.due("GAP", YearHands.GAP, -1000000);
    }

    private static void tape() {
        YearHands x = new YearHands();
        for (int i = 1; i <= 80; i++) {
            CHECK.due("feed " + i, x.feed(0x20202020, 0x20202020, 0x20202020, 0x20202020, 0x20202020), 20 * i);
        }
        CHECK.due("feed beyond", x.feed(1, 2, 3, 4, 5), -1);
        CHECK.due("about(15)", x.about(15), 1600);
        CHECK.due("end(1601)", x.end(1601), -1);
        CHECK.due("end(-1)", x.end(-1), -1);
        CHECK.due("end(1600)", x.end(1600), 1600);
        CHECK.due("end(1581)", x.end(1581), 1581);
        CHECK.due("feed beyond, by one", x.feed(1, 2, 3, 4, 5), -1);
        CHECK.due("about(15)", x.about(15), 1581);
        CHECK.due("end(1580)", x.end(1580), 1580);
        CHECK.due("end(1581) again", x.end(1581), -1);
        CHECK.due("feed just so", x.feed(0x20202020, 0x20202020, 0x20202020, 0x20202020, 0x20202020), 1600);
        CHECK.due("blanks alone", x.town(), 0);
        CHECK.due("the TAPE is empty", x.about(15), 0);
        // The highest byte of each number comes first, and bytes above 127 are bytes too.
        CHECK.due("draw 12;", x.feed(0x64726177, 0x2031323b, 0xff202020, 0, 0), 20);
        CHECK.due("end(8)", x.end(8), 8);
        CHECK.due("town()", x.town(), 0);
        CHECK.due("the SEED", x.about(6), 12);
        x.feed(0x64726177, 0x2031323b, 0xff202020, 0, 0);
        CHECK.due("a byte 255", x.town(), -1);
        fault("a byte 255", x, 1, 8);
    }

    /** What stood behind the end of the TAPE is no part of the text. */
    private static void behindTheEnd() {
        String text = "draw 12 ;draw 1   ";
        int[] ends = {0, 3, 4, 5, 6, 7, 8, 9, 10, 18};
        int[] faults = {0, 2, 2, 2, 2, 2, 2, 0, 2, 2};
        int[] places = {-1, 0, 4, 5, 6, 7, 8, -1, 9, 9};
        for (int i = 0; i < ends.length; i++) {
            YearHands x = new YearHands();
            Check.put(x, text);
            x.end(ends[i]);
            x.town();
            fault("the first " + ends[i] + " of " + text, x, faults[i], places[i]);
        }
        YearHands x = new YearHands();
        Check.put(x, "draw 999;");
        x.end(7);
        x.feed(0x3b202020, 0x20202020, 0x20202020, 0x20202020, 0x20202020);
        CHECK.due("fed behind the end", x.town(), 0);
        CHECK.due("the SEED", x.about(6), 99);
    }

    private static void told() {
        YearHands x = new YearHands();
        String text = "ages 10 to 140 ; person ann age 10 coin 999 need 140 family 3;person bob age 140 coin 0;"
            + "friend ann to bob price 99;friend bob to ann price 0;right x age;right y(coin+1)*2;odds year;draw 999;";
        CHECK.due("told", Check.tell(x, text), 2);
        int[] due = {2, 2, 2, 10, 140, 0, 999, 3, 0, 0, 0, 0, 0, 0, 0, 0, 6, 0};
        for (int what = 0; what < due.length; what++) {
            CHECK.due("told: about(" + what + ")", x.about(what), due[what]);
        }
        CHECK.due("fault(0)", x.fault(0), 0);
        CHECK.due("fault(1)", x.fault(1), -1);
        CHECK.due("fault(2)", x.fault(2), -1);
        CHECK.due("fault(-1)", x.fault(-1), -1);
        CHECK.due("ages stay", Check.tell(x, "ages 5 to 5;person a age 5 coin 1;"), 1);
        CHECK.due("LEAST", x.about(3), 5);
        CHECK.due("MOST", x.about(4), 5);
        CHECK.due("empty", Check.tell(x, ""), 0);
        CHECK.due("LEAST of the empty", x.about(3), 0);
        CHECK.due("MOST of the empty", x.about(4), 120);
    }

    private static void resets() {
        String text = "person a age 20 coin 5;person b age 20 coin 5;friend a to b price 1;draw 3;";
        YearHands x = Check.town(text);
        x.later(7);
        x.face(0, 20);
        x.target(0, 20);
        x.lend(0, 1, 1, 5);
        x.give(0, 1, 1);
        x.image(0);
        x.year();
        x.undo();
        x.safest();
        CHECK.due("a FAULT", Check.tell(x, "oops"), -1);
        fault("a FAULT", x, 2, 0);
        int[] before = {2, 1, 0, 0, 120, 0, 3, 3, 1, 0, 2, 1, 1, 1, 7, 0, 0, 2};
        for (int what = 0; what < before.length; what++) {
            CHECK.due("a FAULT changes nothing: about(" + what + ")", x.about(what), before[what]);
        }
        CHECK.due("the age stays", x.person(0, 0), 18);
        CHECK.due("the BOX stays", x.back(0), 0);
        x.give(0, 1, 1);
        x.give(0, 1, 1);
        x.undo();
        CHECK.due("told again", Check.tell(x, text), 2);
        int[] after = {2, 1, 0, 0, 120, 0, 3, 3, 0, 0, 0, 0, 0, 0, 7, 0, 0, 0};
        for (int what = 0; what < after.length; what++) {
            CHECK.due("told again: about(" + what + ")", x.about(what), after[what]);
        }
        CHECK.due("all as told", x.person(0, 0), 20);
        CHECK.due("BOXES are empty", x.back(0), -1);
        CHECK.due("no ACTS are kept", x.undo(), false);
        CHECK.due("no ACTS to do again", x.redo(), false);
        CHECK.due("no FAULT now", x.fault(0), 0);
        CHECK.due("no place now", x.fault(1), -1);
    }

    private static void tokens() {
        bad("a sign that is none", "draw 1;!", 1, 7);
        bad("a capital letter", "Draw 1;", 1, 0);
        bad("a tab", "draw\t1;", 1, 4);
        bad("a byte 0", "\0", 1, 0);
        bad("a carriage return", "draw 1;\r\n", 1, 7);
        good("blanks and lines", "\n draw\n1 \n;\n");
        good("an N directly behind a word, no blanks else", "draw1;person abcdefgh age1 coin2 need3 family1;");
        bad("nine letters", "person abcdefghi age 1 coin 1;", 1, 7);
        bad("nine letters where they can't stand", "abcdefghi", 1, 0);
        bad("eight letters where they can't stand", "abcdefgh", 2, 0);
        bad("five digits", "draw 00001;", 1, 5);
        bad("four digits", "draw 1000;", 4, 5);
        good("four digits with zeros", "draw 0999;");
        bad("a letter directly behind an N", "ages 1to 2;", 1, 5);
        bad("a letter directly behind an N that can't be", "draw 1000x;", 1, 5);
        bad("a letter directly behind an N that can't stand", "1draw", 1, 0);
        bad("a letter directly behind four digits", "draw 0999a", 1, 5);
        bad("a long row of letters directly behind an N", "draw 1abcdefghi;", 1, 5);
        bad("a long row of digits with letters", "draw 12345x;", 1, 5);
        bad("a letter directly behind a unit", "right x 1+2z;", 1, 10);
        bad("a letter directly behind an N, a unit too many", "right x 1" + "+1".repeat(29) + "+1or 1;", 1, 68);
        bad("a capital letter behind an N", "draw 1A;", 1, 6);
        bad("a capital letter behind an N that can't stand", "1A", 2, 0);
        good("a blank between", "ages 1 to 2;");
        good("a line's end between", "ages 1\nto\n2;");
        bad("a blank between an N and a word that can't stand", "draw 1 x;", 2, 7);
        behindAnOldNumber();
        good("a sign directly behind an N", "right x 1+1;");
        good("an N directly behind a word", "right x not1 and not0;");
    }

    /** A letter behind the end of the text, from an older TAPE, is not directly behind the N. */
    private static void behindAnOldNumber() {
        YearHands x = new YearHands();
        Check.put(x, "draw 1x;");
        x.end(6);
        x.town();
        fault("the text ends behind the N", x, 2, 6);
        Check.put(x, "6m");
        x.end(1);
        x.town();
        fault("6, with m behind the end", x, 2, 0);
        Check.put(x, "6m");
        x.town();
        fault("6m", x, 1, 0);
    }

    private static void lines() {
        bad("the end within a line", "draw 1", 2, 6);
        bad("the end behind blanks", "draw 1  ", 2, 8);
        bad("a sign at first", ";", 2, 0);
        bad("a second sign", "draw 1;;", 2, 7);
        bad("no sign", "draw 1 draw 2;", 2, 7);
        bad("a word that begins no line", "age 1;", 2, 0);
        bad("draw twice", "draw 1;draw 2;", 2, 7);
        bad("odds twice", "odds 1; odds 2;", 2, 8);
        bad("ages twice", "ages 1 to 2; ages 1 to 2;", 2, 13);
        bad("ages behind another line", "draw 1;ages 1 to 2;", 2, 7);
        bad("person without age", "person a coin 1;", 2, 9);
        bad("person without coin", "person a age 1;", 2, 14);
        bad("family ahead of need", "person a age 1 coin 1 family 1 need 1;", 2, 31);
        good("family without need", "person a age 1 coin 1 family 1;");
        bad("need twice", "person a age 1 coin 1 need 1 need 1;", 2, 29);
        bad("a word for a number", "person a age b coin 1;", 2, 13);
        bad("a number for a word", "person a 5 coin 1;", 2, 9);
        bad("friend without to", TWO + "friend a b price 1;", 2, TWO.length() + 9);
        bad("friend without price", TWO + "friend a to b 1;", 2, TWO.length() + 14);
        bad("ages without to", "ages 1 2;", 2, 7);
        bad("right without e", "right x;", 2, 7);
        bad("odds without e", "odds;", 2, 4);
        bad("draw without N", "draw;", 2, 4);
    }

    private static void numbers() {
        good("the least ages", "ages 0 to 0;person a age 0 coin 0;");
        good("the most ages", "ages 150 to 150;person a age 150 coin 0;");
        bad("LEAST too much", "ages 151 to 151;", 4, 5);
        bad("MOST too much", "ages 150 to 151;", 4, 12);
        bad("MOST below LEAST", "ages 5 to 4;", 4, 10);
        good("MOST not told", "person a age 120 coin 0;");
        bad("MOST not told, above", "person a age 121 coin 0;", 4, 13);
        bad("below LEAST", "ages 10 to 20;person a age 9 coin 0;", 4, 27);
        bad("above MOST", "ages 10 to 20;person a age 21 coin 0;", 4, 27);
        bad("coin", "person a age 1 coin 1000;", 4, 20);
        bad("need below LEAST", "ages 10 to 20;person a age 10 coin 0 need 9;", 4, 42);
        bad("need above MOST", "ages 10 to 20;person a age 10 coin 0 need 21;", 4, 42);
        bad("family", "person a age 1 coin 1 family 4;", 4, 29);
        bad("price", TWO + "friend a to b price 100;", 4, TWO.length() + 20);
        bad("draw", "draw 1000;", 4, 5);
    }

    private static void names() {
        bad("a NAME told already", "person a age 1 coin 0;person a age 1 coin 0;", 3, 29);
        bad("a RIGHT told already", "right a 1;right a 1;", 3, 16);
        good("of another sort", "person a age 1 coin 0;right a 1;");
        bad("FRIENDS told already", TWO + "friend a to b price 1;friend a to b price 2;", 3, TWO.length() + 34);
        good("the other order", TWO + "friend a to b price 1;friend b to a price 2;");
        bad("of one to itself", TWO + "friend a to a price 1;", 3, TWO.length() + 12);
        bad("nobody at first", TWO + "friend c to a price 1;", 5, TWO.length() + 7);
        bad("nobody at second", TWO + "friend a to c price 1;", 5, TWO.length() + 12);
        bad("nobody yet", "person a age 1 coin 0;friend a to b price 1;person b age 1 coin 0;", 5, 34);
        bad("a RIGHT is no PERSON", "right a 1;friend a to a price 1;", 5, 17);
        String[] words = {"person", "age", "coin", "need", "family", "friend", "to", "price", "right", "odds", "ages",
            "draw", "or", "and", "not", "year"};
        for (String word : words) {
            bad(word + " as a person", "person " + word + " age 1 coin 1;", 2, 7);
            bad(word + " as a right", "right " + word + " 1;", 2, 6);
            bad(word + " as a friend", TWO + "friend " + word + " to a price 1;", 2, TWO.length() + 7);
        }
        good("longer than a word", "person agee age 1 coin 1;person ag age 1 coin 1;person years age 1 coin 1;");
        good("eight like letters", "person aaaaaaaa age 1 coin 1;person aaaaaaa age 1 coin 1;");
        bad("eight letters told already", "right zzzzzzzz 1;right zzzzzzzz 1;", 3, 23);
    }

    private static void formulas() {
        good("all units", "right x 1 + age - coin * year / family % (2);");
        bad("no unit", "right x +;", 2, 8);
        bad("a NAME as a unit", "right x foo;", 2, 8);
        bad("need as a unit", "right x need;", 2, 8);
        bad("two units", "right x 1 2;", 2, 10);
        bad("two relations", "right x 1 < 2 < 3;", 2, 14);
        good("relations joined", "right x 1 < 2 and 2 > 1 or 1 = 1;");
        good("a relation of relations", "right x (1 < 2) < (2 > 1);");
        bad("not within a sum", "right x 1 + not 1;", 2, 12);
        bad("not behind a relation", "right x 1 < not 1;", 2, 12);
        good("not behind and, or", "right x not 1 and not not 2 or not 3;");
        bad("an open sign", "right x (1;", 2, 10);
        bad("a closing sign", "right x 1);", 2, 9);
        bad("nothing between", "right x ();", 2, 9);
        bad("the end behind and", "right x 1 and", 2, 13);
        bad("no minus of one", "right x -1;", 2, 8);
    }

    private static void limits() {
        String people = "";
        for (int i = 0; i < 8; i++) {
            people += "person " + (char) ('a' + i) + " age 1 coin 0;";
        }
        good("eight PEOPLE", people);
        bad("nine PEOPLE", people + "person i age 1 coin 0;", 2, people.length());
        String friends = people;
        int told = 0;
        for (int i = 0; i < 8 && told < 20; i++) {
            for (int j = 0; j < 8 && told < 20; j++) {
                if (i != j) {
                    friends += "friend " + (char) ('a' + i) + " to " + (char) ('a' + j) + " price 1;";
                    told++;
                }
            }
        }
        good("twenty FRIENDS", friends);
        bad("twenty-one FRIENDS", friends + "friend h to a price 1;", 2, friends.length());
        String rights = "right a 1;right b 1;right c 1;right d 1;right e 1;right f 1;";
        good("six RIGHTS", rights);
        bad("seven RIGHTS", rights + "right g 1;", 2, rights.length());

        String thirty = "1" + "+1".repeat(29);
        good("thirty units", "right a " + thirty + ";");
        bad("thirty-one units", "right a " + thirty + "+1;", 2, 8 + thirty.length() + 1);
        String nested = "(1)" + "+1".repeat(28);
        good("thirty units, one of them ( e )", "right a " + nested + ";");
        bad("thirty-one units, one of them ( e )", "right a " + nested + "+(1);", 2, 8 + nested.length() + 1);
        bad("the ( e ) is the thirty-first", "right a " + thirty + "*(1);", 2, 8 + thirty.length() + 1);
        String sixty = "right a " + thirty + ";odds " + thirty + ";";
        YearHands x = Check.town(sixty);
        CHECK.due("sixty units", x.about(16), 60);
        bad("sixty-one units", sixty + "right b 1;", 2, sixty.length() + 8);

        good("seven brackets", "right a (((((((1)))))));");
        bad("eight brackets", "right a ((((((((1))))))));", 2, 15);
        good("seven nots", "right a not not not not not not not 1;");
        bad("eight nots", "right a not not not not not not not not 1;", 2, 36);
        bad("brackets within nots", "right a not not not not not not not (1);", 2, 36);
        bad("a not within brackets", "right a (((((((not 1)))))));", 2, 15);
        good("both within six", "right a (((not not not not 1)));");
        bad("both within seven", "right a (((not not not not (1))));", 2, 27);
        good("beside one another", "right a (((((((1))))))) + (((((((1))))))) and not not not not not not not 1;");
    }

    private static void good(String what, String text) {
        YearHands x = new YearHands();
        Check.tell(x, text);
        CHECK.due(what + ": FAULT", x.fault(0), 0);
        CHECK.due(what + ": place", x.fault(1), -1);
    }

    private static void bad(String what, String text, int fault, int place) {
        YearHands x = new YearHands();
        CHECK.due(what + ": town()", Check.tell(x, text), -1);
        fault(what, x, fault, place);
        CHECK.due(what + ": PEOPLE", x.about(0), 0);
        CHECK.due(what + ": the TAPE", x.about(15), 0);
    }

    private static void fault(String what, YearHands x, int fault, int place) {
        CHECK.due(what + ": FAULT", x.fault(0), fault);
        CHECK.due(what + ": place", x.fault(1), place);
    }
}
