/** Promises 8 and 9: demerits and line. */
public final class LineTest {
    private static final int[] WRONG = {-1, 6, 7, -6, Integer.MAX_VALUE, Integer.MIN_VALUE};

    public static void main(String[] args) {
        noneBeforeAny();
        facts();
        noneSuch();
        anotherWhat();
        latest();
        Check.end();
    }

    private static void noneBeforeAny() {
        Check.sentence("The DEMERITS of the latest PARAGRAPH that a BREAK parted, together; NONE before any.");
        Subject x = Subject.after("", ".nf", "text", ".fi", ".br", ".ce", "text", ".sp");
        Check.same("lines that no BREAK parted", x.demerits(), PageFormatter.NONE);
        Check.same("line(0, 0)", x.line(0, 0), PageFormatter.NONE);
        x.enter("word");
        Check.same("gathered", x.demerits(), PageFormatter.NONE);
        x.enter(".br");
        Check.same("parted", x.demerits(), 1);
    }

    private static void facts() {
        Check.sentence("what = 0 its LENGTH, 1 its SLACK, 2 its BADNESS, 3 its blanks (one between each two),"
                + " 4 whether it ends with a - of a hyphen point (1 or 0), 5 its ROOM.");
        Subject x = Subject.parted(".rm 13", ".in 1", ".ti 3", "a b cc^dd ee ffffff gggggggg h");
        Check.same("the first", x.facts(0), "7 3 337 2 1 10");
        Check.same("the second", x.facts(1), "12 0 0 2 0 12");
        Check.same("the third", x.facts(2), "10 2 0 1 0 12");
        Check.same("bytes", x.body(), "   a  b   cc-\n dd ee ffffff\n gggggggg h\n");
        Check.same("blanks made full count once", x.line(0, 3), 2);
    }

    private static void noneSuch() {
        Check.sentence("NONE: there is none such; BAD, behind that: another what.");
        Subject x = Subject.parted(".rm 5", "aa bb cc dd ee");
        Check.same("lines", x.count(13), 3);
        int[] none = {-1, 3, 4, Integer.MAX_VALUE, Integer.MIN_VALUE};
        for (int i : none) {
            for (int what = 0; what < 6; what++) {
                Check.same("line(" + i + ", " + what + ")", x.line(i, what), PageFormatter.NONE);
            }
            for (int what : WRONG) {
                Check.same("line(" + i + ", " + what + ")", x.line(i, what), PageFormatter.NONE);
            }
        }
        Check.same("line(0, 0)", x.line(0, 0), 5);
        Check.same("line(2, 0)", x.line(2, 0), 2);
    }

    private static void anotherWhat() {
        Check.sentence("BAD, behind that: another what.");
        Subject x = Subject.parted(".rm 5", "aa bb cc");
        for (int i = 0; i < 2; i++) {
            for (int what : WRONG) {
                Check.same("line(" + i + ", " + what + ")", x.line(i, what), PageFormatter.BAD);
            }
            Check.same("line(" + i + ", 5)", x.line(i, 5), 5);
        }
    }

    private static void latest() {
        Check.sentence("The DEMERITS of the latest PARAGRAPH that a BREAK parted, together");
        Subject x = Subject.parted(".rm 5", "aa bb cc");
        x.enterAll("dd ee ff", "gg^hh");
        Check.same("while another is gathered", x.facts(0) + " " + x.demerits(), "5 0 0 1 0 5 2");
        x.enter(".br");
        Check.same("the next one", x.count(13) * 10 + x.line(1, 3), 31);
        x.enterAll(".br", "", ".nf", "text", ".fi", "i", ".br");
        Check.same("one with fewer lines", x.facts(0) + " " + x.demerits(), "1 4 0 0 0 5 1");
        Check.same("no line of the one before", x.line(1, 0), PageFormatter.NONE);
        x.enterAll("jj kkkkkk", ".br");
        Check.same("nor its DEMERITS", x.demerits(), 2 * 10001L * 10001);
    }
}
