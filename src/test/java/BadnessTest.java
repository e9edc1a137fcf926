/** LEGAL lines, SLACK and BADNESS. */
public final class BadnessTest {
    public static void main(String[] args) {
        notAboveRoom();
        noPlaceBetween();
        slack();
        noSlack();
        noBlanks();
        moreThanTwentyBlanks();
        thirdPower();
        atMost10000();
        lastLine();
        aboveRoom();
        Check.end();
    }

    private static String facts(int i, String... lines) {
        return Subject.parted(lines).facts(i);
    }

    /** The first line has the words, and SLACK; behind it comes a word that fills ROOM. */
    private static String firstLine(int words, int slack) {
        int room = 2 * words - 1 + slack;
        Subject x = Subject.parted(".rm " + room, "a" + " a".repeat(words - 1), "b".repeat(room));
        Check.same("lines", x.count(13), 2);
        return x.facts(0);
    }

    private static void notAboveRoom() {
        Check.sentence("A line is LEGAL if its LENGTH is not above ROOM");
        Check.same("one below", Subject.parted(".rm 6", "aa bb").body(), "aa bb\n");
        Check.same("at ROOM", Subject.parted(".rm 5", "aa bb").body(), "aa bb\n");
        Check.same("one above", Subject.parted(".rm 4", "aa bb").body(), "aa\nbb\n");
        Check.same("with a - at ROOM", Subject.parted(".rm 7", "aaa bb^cc").body(), "aaa bb-\ncc\n");
        Check.same("with a - above", Subject.parted(".rm 6", "aaa bb^cc").body(), "aaa\nbbcc\n");
        Check.same("the first line by its own ROOM", Subject.parted(".rm 5", ".ti 1", "aa bb").body(), " aa\nbb\n");
        Check.same("the others by theirs", Subject.parted(".rm 5", ".in 1", ".ti 0", "aa bb cc dd").body(),
                "aa bb\n cc\n dd\n");
    }

    private static void noPlaceBetween() {
        Check.sentence("or no place is between its beginning and its end.");
        Check.same("a word one above", facts(0, ".rm 4", "abcde"), "5 0 10000 0 0 4");
        Check.same("a word of 100", facts(0, ".rm 1", "a".repeat(100)), "100 0 10000 0 0 1");
        Subject x = Subject.parted(".rm 4", "abcdef^gh");
        Check.same("a place between", x.body(), "abcdef-\ngh\n");
        Check.same("up to it", x.facts(0), "7 0 10000 0 1 4");
        Check.same("its - above ROOM", facts(0, ".rm 4", "abcd^efghi"), "5 0 10000 0 1 4");
        Check.same("behind a hyphen point", facts(1, ".rm 4", "abc^defgh"), "5 0 10000 0 0 4");
        Check.same("a word's end between", Subject.parted(".rm 1", "a b").body(), "a\nb\n");
    }

    private static void slack() {
        Check.sentence("SLACK is ROOM less LENGTH, 0 at least");
        Check.same("one below ROOM", facts(0, ".rm 6", "abcde").split(" ")[1], "1");
        Check.same("at ROOM", facts(0, ".rm 5", "abcde").split(" ")[1], "0");
        Check.same("one above ROOM", facts(0, ".rm 4", "abcde").split(" ")[1], "0");
        Check.same("two above ROOM", facts(0, ".rm 3", "abcde").split(" ")[1], "0");
        Check.same("79", facts(0, ".rm 80", "a").split(" ")[1], "79");
    }

    private static void noSlack() {
        Check.sentence("0 if SLACK is 0");
        Check.same("with blanks", firstLine(3, 0), "5 0 0 2 0 5");
        Check.same("with one blank", firstLine(2, 0), "3 0 0 1 0 3");
        Check.same("without blanks", facts(0, ".rm 5", "abcde fgh"), "5 0 0 0 0 5");
        Check.same("with a -", facts(0, ".rm 5", "abcd^efghi"), "5 0 0 0 1 5");
    }

    private static void noBlanks() {
        Check.sentence("10000 if g is 0");
        Check.same("SLACK 1", firstLine(1, 1), "1 1 10000 0 0 2");
        Check.same("SLACK 79", firstLine(1, 79), "1 79 10000 0 0 80");
        Check.same("one blank, SLACK 1", firstLine(2, 1), "3 1 100 1 0 4");
        Check.same("parts of a word", facts(0, ".rm 6", "abc^de^fghijk"), "6 0 0 0 1 6");
        Check.same("parts of a word, SLACK 1", facts(0, ".rm 7", "abc^de^fghijkl"), "6 1 10000 0 1 7");
    }

    private static void moreThanTwentyBlanks() {
        Check.sentence("or SLACK is more than 20 g");
        for (int slack = 19; slack <= 21; slack++) {
            Check.same("one blank, SLACK " + slack, firstLine(2, slack), "3 " + slack + " 10000 1 0 " + (3 + slack));
        }
        for (int slack = 39; slack <= 41; slack++) {
            Check.same("two, SLACK " + slack, firstLine(3, slack), "5 " + slack + " 10000 2 0 " + (5 + slack));
        }
        Check.same("SLACK 77", firstLine(2, 77), "3 77 10000 1 0 80");
    }

    private static void thirdPower() {
        Check.sentence("else 100 SLACK SLACK SLACK / (g g g), rounded down");
        Check.same("1 of 1", firstLine(2, 1), "3 1 100 1 0 4");
        Check.same("1 of 2: 12.5", firstLine(3, 1), "5 1 12 2 0 6");
        Check.same("2 of 3: 29.6", firstLine(4, 2), "7 2 29 3 0 9");
        Check.same("1 of 4: 1.6", firstLine(5, 1), "9 1 1 4 0 10");
        Check.same("1 of 5: 0.8", firstLine(6, 1), "11 1 0 5 0 12");
        Check.same("31 of 11: 2238.2", firstLine(12, 31), "23 31 2238 11 0 54");
        Check.same("14 of 27: 13.9", firstLine(28, 14), "55 14 13 27 0 69");
        Check.same("2 of 38: 0.01", firstLine(39, 2), "77 2 0 38 0 79");
    }

    private static void atMost10000() {
        Check.sentence("rounded down, 10000 at most");
        Check.same("4 of 1", firstLine(2, 4), "3 4 6400 1 0 7");
        Check.same("5 of 1: 12500", firstLine(2, 5), "3 5 10000 1 0 8");
        Check.same("9 of 2: 9112.5", firstLine(3, 9), "5 9 9112 2 0 14");
        Check.same("51 of 11: 9966.3", firstLine(12, 51), "23 51 9966 11 0 74");
        Check.same("14 of 3: 10162.9", firstLine(4, 14), "7 14 10000 3 0 21");
        Check.same("37 of 8: 9893.1", firstLine(9, 37), "17 37 9893 8 0 54");
    }

    private static void lastLine() {
        Check.sentence("BADNESS of the last line 0");
        Check.same("no SLACK", facts(0, ".rm 3", "a b"), "3 0 0 1 0 3");
        Check.same("SLACK 1", facts(0, ".rm 4", "a b"), "3 1 0 1 0 4");
        Check.same("more than 20 g", facts(0, ".rm 80", "a b"), "3 77 0 1 0 80");
        Check.same("no blanks", facts(0, ".rm 80", "a"), "1 79 0 0 0 80");
        Check.same("the second", facts(1, ".rm 3", "a b c"), "1 2 0 0 0 3");
        Check.same("one that is not the last", facts(0, ".rm 4", "a b cccc"), "3 1 100 1 0 4");
    }

    private static void aboveRoom() {
        Check.sentence("of a line whose LENGTH is above ROOM (the last one, too) 10000.");
        Check.same("below, not the last", facts(0, ".rm 6", "abcde fghijk"), "5 1 10000 0 0 6");
        Check.same("at ROOM, not the last", facts(0, ".rm 5", "abcde fghijk"), "5 0 0 0 0 5");
        Check.same("above, not the last", facts(0, ".rm 4", "abcde fghijk"), "5 0 10000 0 0 4");
        Check.same("below, the last", facts(0, ".rm 6", "abcde"), "5 1 0 0 0 6");
        Check.same("at ROOM, the last", facts(0, ".rm 5", "abcde"), "5 0 0 0 0 5");
        Check.same("above, the last", facts(0, ".rm 4", "abcde"), "5 0 10000 0 0 4");
    }
}
