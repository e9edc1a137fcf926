/** Promise 10: count. */
public final class CountTest {
    public static void main(String[] args) {
        each();
        others();
        anotherWhat();
        Check.end();
    }

    private static void each() {
        Check.sentence("What = 0 words of the PARAGRAPH that is gathered, 1 LINE NUMBER, 2 THE PAGE"
                + " (0 before any HEAD), 3 THE NEXT PAGE, 4 RIGHT, 5 INDENT, 6 THIS INDENT, 7 SPACING,"
                + " 8 CENTRED, 9 UNDERLINED");
        Subject x = Subject.after(".rm 30", ".in 2", ".ls 3", ".pl 50", ".bp 6", ".zz", ".yy", "a b", ".br",
                "   c d e", ".ul 4", ".na");
        x.type("typed");
        int[] due = {3, 7, 6, 7, 30, 2, 5, 3, 0, 4, 50, 1, 0, 1, 2, 1, 5};
        for (int what = 0; what < due.length; what++) {
            Check.same("count(" + what + ")", x.count(what), due[what]);
        }
    }

    private static void others() {
        Check.sentence("10 PAGE LENGTH, 11 FILL (1 or 0), 12 JUSTIFY (1 or 0), 13 lines of the latest PARAGRAPH"
                + " that was parted, 14 LINES passed over for their name, 15 lines PUT, 16 bytes of the LINE.");
        Subject x = Subject.after(".rm 5", "aa bb cc dd", ".nf", ".ce 3", "", "x");
        Check.same("CENTRED", x.count(8), 2);
        Check.same("FILL", x.count(11), 0);
        Check.same("JUSTIFY", x.count(12), 1);
        Check.same("lines of the PARAGRAPH", x.count(13), 2);
        Check.same("LINES passed over", x.count(14), 0);
        Check.same("lines PUT", x.count(15), 4);
        Check.same("bytes of the LINE", x.count(16), 0);
    }

    private static void anotherWhat() {
        Check.sentence("BAD: another what.");
        Subject x = Subject.after("word");
        int[] bad = {-1, 17, 18, -17, Integer.MAX_VALUE, Integer.MIN_VALUE};
        for (int what : bad) {
            Check.same("count(" + what + ")", x.count(what), PageFormatter.BAD);
        }
        Check.same("count(0)", x.count(0), 1);
        Check.same("count(16)", x.count(16), 0);
    }
}
