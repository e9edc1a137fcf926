/** KINDS and DEMERITS of lines. */
public final class DemeritsTest {
    private static final long WORST = 10001L * 10001;
    /** In ROOM 13: a word that fills it, words with BADNESS 29, a word with SLACK 1, one that is too long. */
    private static final String ZERO = "zzzzzzzzzzzzz", ONE = "aa bb cc dd", TWO = "tttttttttttt",
        LONG = "llllllllllllll";

    public static void main(String[] args) {
        squares();
        kind0Below13();
        kind1Below100();
        kindsBesideEachOther();
        noLineBefore();
        oneHyphen();
        hyphensBesideEachOther();
        hyphenAndKind();
        Check.end();
    }

    private static long sum(int room, String... lines) {
        Subject x = Subject.after(".rm " + room);
        x.enterAll(lines);
        x.enter(".br");
        return x.demerits();
    }

    private static String ones(int words) {
        return "a" + " a".repeat(words - 1);
    }

    private static void squares() {
        Check.sentence("DEMERITS of a line: (1 and BADNESS) squared");
        Check.same("BADNESS 0", sum(40, "a"), 1);
        Check.same("twice 0", sum(3, "a b c"), 2);
        Check.same("1, then 0", sum(10, ones(5), "b".repeat(10)), 2 * 2 + 1);
        Check.same("12, then 0", sum(6, ones(3), "bbbbbb"), 13 * 13 + 1);
        Check.same("10000", sum(1, "ab"), WORST);
        Check.same("10000 thrice", sum(1, "ab cd ef"), 3 * WORST);
    }

    private static void kind0Below13() {
        Check.sentence("KIND of a line: 0 if BADNESS is below 13");
        Check.same("12 beside 10000", sum(6, ones(3), "b".repeat(7)), 13 * 13 + WORST + 5000);
        Check.same("13 beside 10000", sum(69, ones(28), "b".repeat(70)), 14 * 14 + WORST);
        Check.same("12 beside 0", sum(6, ones(3), "b".repeat(6)), 13 * 13 + 1);
        Check.same("13 beside 0", sum(69, ones(28), "b".repeat(69)), 14 * 14 + 1);
        Check.same("29 beside 10000", sum(13, ONE, LONG), 30 * 30 + WORST);
    }

    /** SLACK 25 of 26 blanks, BADNESS 88: nothing nearer below 100 goes into 80 bytes. */
    private static void kind1Below100() {
        Check.sentence("1 if it is below 100, else 2.");
        Check.same("88 beside 0", sum(78, ones(27), "b".repeat(78)), 89 * 89 + 1);
        Check.same("88 beside 10000", sum(78, ones(27), "b".repeat(79)), 89 * 89 + WORST);
        Check.same("100 beside 0", sum(4, ones(2), "bbbb"), 101 * 101 + 1 + 5000);
        Check.same("100 beside 10000", sum(4, ones(2), "bbbbb"), 101 * 101 + WORST);
        Check.same("111 beside 0", sum(80, ones(27), "b".repeat(80)), 112 * 112 + 1 + 5000);
        Check.same("29 beside 0", sum(13, ONE, ZERO), 30 * 30 + 1);
    }

    private static void kindsBesideEachOther() {
        Check.sentence("5000 more if its KIND is 2 and that of the one before 0, or the other way round.");
        Check.same("0, 0", sum(13, ZERO, ZERO), 1 + 1);
        Check.same("0, 1, 0", sum(13, ZERO, ONE, ZERO), 1 + 900 + 1);
        Check.same("0, 2, 0", sum(13, ZERO, TWO, ZERO), 1 + WORST + 5000 + 1 + 5000);
        Check.same("0, 2", sum(13, ZERO, LONG), 1 + WORST + 5000);
        Check.same("1, 1, 0", sum(13, ONE, ONE, ZERO), 900 + 900 + 1);
        Check.same("1, 2, 0", sum(13, ONE, TWO, ZERO), 900 + WORST + 1 + 5000);
        Check.same("1, 2", sum(13, ONE, LONG), 900 + WORST);
        Check.same("2, 0", sum(13, TWO, ZERO), WORST + 1 + 5000);
        Check.same("2, 1, 0", sum(13, TWO, ONE, ZERO), WORST + 900 + 1);
        Check.same("2, 2, 0", sum(13, TWO, TWO, ZERO), 2 * WORST + 1 + 5000);
        Check.same("2, 1, 2", sum(13, TWO, ONE, LONG), 2 * WORST + 900);
        Check.same("the last line by its BADNESS", sum(13, TWO, "a"), WORST + 1 + 5000);
    }

    private static void noLineBefore() {
        Check.sentence("and that of the one before 0");
        Check.same("0 alone", sum(13, ZERO), 1);
        Check.same("2 alone", sum(13, LONG), WORST);
        Subject x = Subject.parted(".rm 13", ZERO);
        x.enterAll(LONG, ".br");
        Check.same("none of another PARAGRAPH", x.demerits(), WORST);
    }

    private static void oneHyphen() {
        Check.sentence("3000 more if it ends with a - of a hyphen point");
        Check.same("one", sum(3, "ab^cd"), 1 + 3000 + 1);
        Check.same("not parted there", sum(4, "ab^cd"), 1);
        Check.same("a - of the word", sum(3, "ab- cd"), 1 + 1);
        Check.same("a - before a hyphen point", sum(4, "ab-^cd"), 1 + 3000 + 1);
    }

    private static void hyphensBesideEachOther() {
        Check.sentence("10000 more if the one before does, too");
        Check.same("two", sum(3, "ab^cd^ef"), 1 + 3000 + 1 + 3000 + 10000 + 1);
        Check.same("three", sum(3, "ab^cd^ef^gh"), 1 + 3000 + 2 * (1 + 3000 + 10000) + 1);
        Check.same("two of two words", sum(5, "abcd^ef g^hi"), 1 + 3000 + 1 + 3000 + 10000 + 1);
        Check.same("one between", sum(3, "ab^cde fg^hi"), 1 + 3000 + 1 + 1 + 3000 + 1);
        Check.same("a - of the word before", sum(3, "ab- cd^ef"), 1 + 1 + 3000 + 1);
        Check.same("a - of the word behind", sum(3, "ab^cd- ef"), 1 + 3000 + 1 + 1);
    }

    private static void hyphenAndKind() {
        Check.sentence("3000 more if it ends with a - of a hyphen point; 10000 more if the one before"
                + " does, too; 5000 more");
        Check.same("all of them", sum(3, "ab^cde^fg"), 1 + 3000 + WORST + 3000 + 10000 + 5000 + 1 + 5000);
    }
}
