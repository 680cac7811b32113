/** The Terms' sentences on a TOWN's text and its TOKENS that name a boundary case: one test for each, named after it. */
public final class TokensBoundsTest {
    private static final Check CHECK = new Check("TokensBoundsTest");
    private static final String LETTERS = "abcdefghijklmnopqrstuvwxyz";

    public static void main(String[] args) {
        CHECK.runAll(TokensBoundsTest.class);
    }

    /** "A TOWN is a text of at most 1,600 bytes": so many are one. */
    static void aTownIsATextOfAtMost1600Bytes() {
        YearHands x = CHECK.good("draw 7" + " ".repeat(1593) + ";");
        CHECK.due("SEED by a text of 1,600 bytes", x.about(6), 7);
        CHECK.bad("draw 7" + " ".repeat(1594), 2, 1600);
    }

    /** "(empty at first)" */
    static void aTownIsEmptyAtFirst() {
        YearHands x = new YearHands();
        CHECK.due("PEOPLE at first", x.about(0), 0);
        CHECK.due("FRIENDS at first", x.about(1), 0);
        CHECK.due("RIGHTS at first", x.about(2), 0);
        CHECK.due("units at first", x.about(16), 0);
    }

    /** "town = {line}": it may have none. */
    static void aTownMayHaveNoLine() {
        CHECK.due("PEOPLE of no bytes", CHECK.good("").about(0), 0);
        CHECK.due("PEOPLE of blanks", CHECK.good(" \n ").about(0), 0);
    }

    /** "town = {line}": a line has all that it is made of, up to its sign. */
    static void aLineHasItsSign() {
        CHECK.bad("draw 7", 2, 6);
        CHECK.badBehind("draw 7;", ";", 2);
        CHECK.badBehind("draw 7 ", "draw 8;", 2);
    }

    /** "words (a .. z, ..": a and z are letters, the signs beside them are none. */
    static void wordsAreOfAToZ() {
        CHECK.good("right a 1;right z 1;right az 1;");
        CHECK.badBehind("right ", "`a 1;", 1);
        CHECK.badBehind("right ", "{z 1;", 1);
        CHECK.badBehind("right ", "Aa 1;", 1);
        CHECK.badBehind("right ", "Zz 1;", 1);
        CHECK.badBehind("right a", "` 1;", 1);
        CHECK.badBehind("right z", "{ 1;", 1);
    }

    /** "words (.., 8 at most)" */
    static void wordsHaveEightLettersAtMost() {
        CHECK.good("right abcdefgh 1;");
        CHECK.badBehind("right ", "abcdefghi 1;", 1);
    }

    /** "words (a .. z, 8 at most)": each letter of eight counts, NAMES unlike in one alone are two. */
    static void wordsOfEightLettersAreReadWhole() {
        CHECK.good("right aaaaaaaa 1;right baaaaaaa 1;right aaaaaaab 1;right zzzzzzzz 1;right zzzzzzz 1;right z 1;");
        CHECK.badBehind("right zzzzzzzz 1;right ", "zzzzzzzz 1;", 3);
    }

    /** "N (1 to 4 digits)": one. */
    static void anNHasOneDigitAtLeast() {
        CHECK.due("SEED", CHECK.good("draw 7;").about(6), 7);
        CHECK.badBehind("draw ", ";", 2);
    }

    /** "N (1 to 4 digits)": four. */
    static void anNHasFourDigitsAtMost() {
        CHECK.due("SEED", CHECK.good("draw 0999;").about(6), 999);
        CHECK.badBehind("draw ", "00999;", 1);
        YearHands x = CHECK.good("person a age 1 coin 1;right x 9999 = 9 * 1111;");
        CHECK.due("9999 is read whole", x.has(0, 0), 1);
    }

    /** "N (1 to 4 digits)": digits are 0 to 9, the signs beside them are none. */
    static void digitsAre0To9() {
        CHECK.due("SEED", CHECK.good("draw 0;").about(6), 0);
        CHECK.due("SEED", CHECK.good("draw 909;").about(6), 909);
        CHECK.badBehind("draw ", ":1;", 1);
        CHECK.badBehind("draw 1", ":;", 1);
        CHECK.badBehind("draw ", "/1;", 2);
    }

    /** "signs ; ( ) < > = + - * / %": no others, of all bytes. */
    static void signsAreThoseAlone() {
        for (int sign = 0; sign < 256; sign++) {
            boolean blank = sign == 32 || sign == 10;
            boolean token = ";()<>=+-*/%0123456789".indexOf(sign) >= 0 || LETTERS.indexOf(sign) >= 0;
            YearHands x = new YearHands();
            Check.tell(x, "" + (char) sign);
            CHECK.due("FAULT of the byte " + sign, x.fault(0), blank ? 0 : token ? 2 : 1);
            CHECK.due("its place", x.fault(1), blank ? -1 : 0);
        }
    }

    /** "signs ; ( ) < > = + - * / %": each is a TOKEN where it can stand. */
    static void eachSignIsAToken() {
        CHECK.good("right x (1+2-3*4/5%6)<7;right y 1>2;right z 1=2;");
    }

    /** "blanks (32, 10) ..": no others. */
    static void blanksAre32And10() {
        CHECK.good("draw 7;");
        CHECK.good("draw\n7;");
        for (int sign : new int[] {0, 9, 11, 12, 13, 31, 33, 127, 160}) {
            CHECK.badBehind("draw", (char) sign + "7;", 1);
        }
    }

    /** "blanks .. part them or not" */
    static void blanksPartTokensOrNot() {
        CHECK.due("SEED", CHECK.good("draw7;").about(6), 7);
        CHECK.due("SEED", CHECK.good("\n  draw \n\n 7 \n ; \n").about(6), 7);
        CHECK.due("units", CHECK.good("right x not(age+1)*(2)and(3)or not year;").about(16), 8);
    }

    /** "blanks (32, 10) part them": what is on both sides is no row together. */
    static void blanksPartRows() {
        CHECK.bad("dr aw 7;", 2, 0);
        CHECK.badBehind("draw 7 ", "7;", 2);
    }

    /** "each is as long as can be": words. */
    static void wordsAreAsLongAsCanBe() {
        CHECK.bad("drawn 7;", 2, 0);
        CHECK.badBehind("right x ", "agecoin;", 2);
        CHECK.badBehind("right x ", "yearor 1;", 2);
        CHECK.badBehind("right x 1 ", "orage;", 2);
        CHECK.good("person agea age 1 coin 1;");
    }

    /** "each is as long as can be": digits. */
    static void numbersAreAsLongAsCanBe() {
        CHECK.due("SEED", CHECK.good("draw 123;").about(6), 123);
        CHECK.due("units", CHECK.good("right x 1234+5678;").about(16), 2);
    }

    /** "a longer row of letters .. is no TOKEN": at its first letter, however long. */
    static void aLongerRowOfLettersIsNoToken() {
        CHECK.bad("abcdefghi", 1, 0);
        CHECK.badBehind("draw 7 ", "a".repeat(16), 1);
        CHECK.badBehind("draw 7;", "a".repeat(1593), 1);
        // A word that begins a line, with nine letters in all.
        CHECK.bad("friendfri", 1, 0);
    }

    /** "a longer row .. of digits is no TOKEN": at its first digit, however long. */
    static void aLongerRowOfDigitsIsNoToken() {
        CHECK.bad("00000", 1, 0);
        CHECK.badBehind("draw ", "00007;", 1);
        CHECK.badBehind("draw 7 ", "12345;", 1);
        CHECK.badBehind("draw ", "9".repeat(1595), 1);
    }

    /** "a longer row .. of digits is no TOKEN": 4,294,967,303, which is 7 as an int that wraps. */
    static void aLongerRowOfDigitsDoesNotWrap() {
        CHECK.badBehind("draw ", "4294967303;", 1);
        CHECK.badBehind("draw ", "18446744073709551623;", 1);
    }

    /** "no letter directly behind an N": the row of digits is no TOKEN. */
    static void noLetterDirectlyBehindAnN() {
        CHECK.badBehind("ages ", "1to 2;", 1);
        CHECK.badBehind("draw ", "7a;", 1);
        CHECK.badBehind("draw ", "7z;", 1);
        CHECK.badBehind("draw ", "0007z", 1);
        CHECK.bad("7a", 1, 0);
        CHECK.badBehind("right x ", "1or 2;", 1);
    }

    /** "no letter directly behind an N": one that a blank parts from it is not directly behind. */
    static void aLetterBehindABlankBehindAnN() {
        CHECK.good("ages 1 to 2;");
        CHECK.good("ages 1\nto 2;");
        CHECK.good("right x 1 or 2;");
    }

    /** "no letter directly behind an N": a digit directly behind a letter is an N. */
    static void anNDirectlyBehindALetter() {
        CHECK.good("ages1 to2;person a age1 coin1 need1 family1;person b age1 coin1;friend a to b price1;right x1;odds1;");
    }

    /** "The TAPE has its first n bytes": what an older, longer text had behind these is no part of the text. */
    static void whatIsBehindTheEndIsNoText() {
        YearHands x = new YearHands();
        Check.put(x, "draw 7;draw 8;");
        x.end(7);
        CHECK.due("the first line alone", x.town(), 0);
        CHECK.due("SEED", x.about(6), 7);
        Check.put(x, "draw 7a");
        x.end(6);
        x.town();
        CHECK.due("FAULT at the end", x.fault(0), 2);
        CHECK.due("its place", x.fault(1), 6);
        Check.put(x, "draw 77");
        x.end(6);
        x.town();
        CHECK.due("FAULT at the end within digits", x.fault(0), 2);
        CHECK.due("its place", x.fault(1), 6);
        Check.put(x, "draw 7 \n;");
        x.end(6);
        x.town();
        CHECK.due("FAULT at the end ahead of blanks", x.fault(0), 2);
        CHECK.due("its place", x.fault(1), 6);
        Check.put(x, "right abcdefghi 1;");
        x.end(14);
        x.town();
        CHECK.due("FAULT at the end behind eight letters", x.fault(0), 2);
        Check.put(x, "draw 77;");
        x.end(6);
        x.feed(0x3b202020, 0x20202020, 0x20202020, 0x20202020, 0x20202020);
        CHECK.due("7 alone", x.town(), 0);
        CHECK.due("SEED", x.about(6), 7);
    }

    /** "Words that stand for themselves here are no NAMES." */
    static void wordsThatStandForThemselvesAreNoNames() {
        String[] words = {"person", "age", "coin", "need", "family", "friend", "to", "price", "right", "odds", "ages",
            "draw", "or", "and", "not", "year"};
        String two = "person a age 1 coin 1;person b age 1 coin 1;";
        for (String word : words) {
            CHECK.badBehind("person ", word + " age 1 coin 1;", 2);
            CHECK.badBehind("right ", word + " 1;", 2);
            CHECK.badBehind(two + "friend ", word + " to b price 1;", 2);
            CHECK.badBehind(two + "friend a to ", word + " price 1;", 2);
        }
    }

    /** "Words that stand for themselves here": those with a letter more or less are NAMES. */
    static void wordsNextToThoseAreNames() {
        String[] words = {"perso", "persons", "ag", "agea", "coi", "coins", "nee", "needs", "famil", "familyy", "frien",
            "friends", "t", "too", "pric", "prices", "righ", "rights", "odd", "oddss", "agess", "dra", "draws", "o", "ore",
            "an", "ands", "no", "nots", "yea", "years", "line", "e", "n", "name", "one", "both", "sum", "term", "unit", "town"};
        for (String word : words) {
            CHECK.good("right " + word + " 1;");
            CHECK.good("person " + word + " age 1 coin 1;");
        }
    }
}
