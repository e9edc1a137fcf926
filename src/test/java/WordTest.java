/** Words and their hyphen points, and where lines begin and end. */
public final class WordTest {
    public static void main(String[] args) {
        severalAtOnePlace();
        atTheBeginningOrTheEnd();
        wordsWithoutOtherBytes();
        asLongAsItsOtherBytes();
        linesBehindAHyphenPoint();
        lengths();
        rooms();
        nothingToPart();
        Check.end();
    }

    /** With RIGHT 1 a line ends at each place, as no line but one that has none between is LEGAL. */
    private static String atEachPlace(String text) {
        return Subject.parted(".rm 1", text).body();
    }

    private static void severalAtOnePlace() {
        Check.sentence("(several at one place are one;");
        Check.same("none", atEachPlace("abcd"), "abcd\n");
        Check.same("one", atEachPlace("ab^cd"), "ab-\ncd\n");
        Check.same("two", atEachPlace("ab^^cd"), "ab-\ncd\n");
        Check.same("96", atEachPlace("ab" + "^".repeat(96) + "cd"), "ab-\ncd\n");
        Check.same("two, and one elsewhere", atEachPlace("ab^^c^d"), "ab-\nc-\nd\n");
    }

    private static void atTheBeginningOrTheEnd() {
        Check.sentence("each ^ that has other bytes before and behind it in the word is a HYPHEN POINT");
        Check.same("at the beginning", atEachPlace("^ab"), "ab\n");
        Check.same("at the end", atEachPlace("ab^"), "ab\n");
        Check.same("at both, several", atEachPlace("^^ab^^"), "ab\n");
        Check.same("behind the first byte", atEachPlace("a^bc"), "a-\nbc\n");
        Check.same("before the last byte", atEachPlace("ab^c"), "ab-\nc\n");
        Check.same("at all places", atEachPlace("^a^b^"), "a-\nb\n");
        Check.same("in the word, not in the LINE", atEachPlace("a^ ^b"), "a\nb\n");
        Check.same("in each word", atEachPlace("a^b c^d"), "a-\nb\nc-\nd\n");
        Check.same("- and _ are other bytes", atEachPlace("-^_"), "--\n_\n");
    }

    private static void wordsWithoutOtherBytes() {
        Check.sentence("a word without other bytes is none");
        String[] none = {"^", "^^", "^ ^", "^".repeat(100), "^ ".repeat(50)};
        for (String line : none) {
            Subject x = Subject.after(line);
            Check.same("words of " + line.length() + " bytes", x.count(0), 0);
            Check.same("lines", x.enter(".br"), 0);
            Check.same("no PARAGRAPH", x.demerits(), PageFormatter.NONE);
        }
        Subject x = Subject.after("^ a ^^ b ^");
        Check.same("words beside them", x.count(0), 2);
        x.enter(".br");
        Check.same("bytes", x.body(), "a b\n");
    }

    private static void asLongAsItsOtherBytes() {
        Check.sentence("without these bytes it is as long as its other bytes are");
        Check.same("not parted", Subject.parted("^ab^cd^ e^^f").body(), "abcd ef\n");
        Check.same("LENGTH", Subject.parted("^ab^cd^ e^^f").facts(0), "7 33 0 1 0 40");
        Check.same("it fits so", Subject.parted(".rm 4", "^a^b^c^d^").count(13), 1);
        Check.same("50 bytes between 49", Subject.parted(".rm 50", "a" + "^b".repeat(49)).facts(0), "50 0 0 0 0 50");
    }

    private static void linesBehindAHyphenPoint() {
        Check.sentence("to one of the places: behind a word, or at a hyphen point, where a - comes to its end.");
        Check.same("behind a word", Subject.parted(".rm 3", "ab cd").facts(0), "2 1 10000 0 0 3");
        Check.same("at a hyphen point", Subject.parted(".rm 3", "ab^cd").facts(0), "3 0 0 0 1 3");
        Check.same("nowhere else", Subject.parted(".rm 3", "abcd").facts(0), "4 0 10000 0 0 3");
        Check.sentence("A line that begins behind a hyphen point begins there.");
        Subject x = Subject.parted(".rm 4", "a b^cd e");
        Check.same("bytes", x.body(), "a b-\ncd e\n");
        Check.same("first", x.facts(0), "4 0 0 1 1 4");
        Check.same("second", x.facts(1), "4 0 0 1 0 4");
        Check.sentence("one blank between each two words (or parts of words) in it");
        Subject y = Subject.parted(".rm 6", "aaaa^a b c^ccccc");
        Check.same("parts at both ends", y.body(), "aaaa-\na b c-\nccccc\n");
        Check.same("its blanks", y.facts(1), "6 0 0 2 1 6");
    }

    private static void lengths() {
        Check.sentence("Its LENGTH is its bytes, a - at its end, and one blank between each two words");
        Check.same("one byte", Subject.parted("a").facts(0), "1 39 0 0 0 40");
        Check.same("two words", Subject.parted("a b").facts(0), "3 37 0 1 0 40");
        Check.same("100 bytes", Subject.parted("a".repeat(100)).facts(0), "100 0 10000 0 0 40");
        Check.same("a -", Subject.parted(".rm 3", "ab^cd").facts(0), "3 0 0 0 1 3");
        Check.same("a - of the word", Subject.parted(".rm 3", "ab- c").facts(0), "3 0 0 0 0 3");
    }

    private static void rooms() {
        Check.sentence("ROOM is RIGHT less THIS INDENT for the first line, less INDENT for the others.");
        Subject x = Subject.parted(".rm 10", ".in 2", ".ti 5", "aa bb cc dd ee ff");
        Check.same("rooms", x.line(0, 5) * 100 + x.line(1, 5) * 10 + x.line(2, 5), 588);
        Check.same("bytes", x.body(), "     aa bb\n  cc dd ee\n  ff\n");
        Subject y = Subject.parted(".rm 10", ".in 9", ".ti 0", "aaaaa bbbb c");
        Check.same("the least for the others", y.body(), "aaaaa bbbb\n         c\n");
        Check.same("ROOM 1", y.facts(1), "1 0 0 0 0 1");
        Check.same("ROOM 80", Subject.parted(".rm 80", "a").line(0, 5), 80);
        Check.same("as they are at the BREAK", Subject.parted("aa bb", ".in 30", ".rm 35").facts(0), "5 0 0 1 0 5");
    }

    private static void nothingToPart() {
        Check.sentence("A BREAK parts the PARAGRAPH'S words into lines, if there are some");
        Subject x = Subject.parted(".rm 5", "aa bb cc");
        x.enterAll(".br", ".fi", "", " ", "^", ".br");
        Check.same("the latest stays", x.demerits() * 10 + x.count(13), 22);
        x.enterAll("d", ".br");
        Check.same("one word", x.demerits() * 10 + x.count(13), 11);
    }
}
