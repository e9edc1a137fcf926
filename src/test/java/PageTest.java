/** Promise 3, enter: TO PUT a line, SPACING, BOTTOM, HEAD and FOOT. */
public final class PageTest {
    public static void main(String[] args) {
        noPageIsBegun();
        aHead();
        blanksBeforeALine();
        thisIndentIsIndentThen();
        aFoot();
        spacing();
        spacingBeyondBottom();
        pageLengths();
        pageLengthInTheMidst();
        pageNumbers();
        numbersInTexts();
        Check.end();
    }

    private static int lineNumber(String... lines) {
        return Subject.after(lines).count(1);
    }

    private static void noPageIsBegun() {
        Check.sentence("LINE NUMBER is 0 if no page is begun.");
        Check.same("at first", lineNumber(), 0);
        Check.same("words gathered", lineNumber("word"), 0);
        Check.same("commands", lineNumber(".pl 30", ".bp 5", ".br", ".he h", ".in 3"), 0);
        Check.same("a line PUT", lineNumber(""), 5);
        Subject x = Subject.after("");
        x.finish();
        Check.same("behind finish()", x.count(1), 0);
    }

    /** PAGE LENGTH 10, so BOTTOM 7: lines at 4, 5, 6 and 7. */
    private static void aHead() {
        Check.sentence("TO PUT a line: if LINE NUMBER is 0 or above BOTTOM: a HEAD");
        Subject x = Subject.after(".pl 10", ".he H#", ".fo F#");
        x.enter();
        Check.same("at 0", x.output(), "\nH1\n\n\n");
        x.enterAll("", "");
        Check.same("LINE NUMBER", x.count(1), 7);
        x.wipe();
        x.enter();
        Check.same("at BOTTOM none", x.output(), "\n\nF1\n\n");
        Check.same("LINE NUMBER then", x.count(1), 8);
        x.wipe();
        x.enter();
        Check.same("above BOTTOM", x.output(), "\nH2\n\n\n");
        Check.sentence("10, the HEAD text, 10, 10; LINE NUMBER is 4.");
        Check.same("LINE NUMBER on the second page", x.count(1), 4 + 1);
    }

    private static void blanksBeforeALine() {
        Check.sentence("then THIS INDENT blanks (none before an empty line) and the line, 10");
        int[] indents = {0, 1, 2, 79};
        for (int indent : indents) {
            Subject x = Subject.after(".nf", ".rm 80", ".in " + indent, "x", "", "^", " ");
            Check.same("INDENT " + indent, x.body(), " ".repeat(indent) + "x\n\n\n\n");
        }
    }

    private static void thisIndentIsIndentThen() {
        Check.sentence("THIS INDENT is INDENT then");
        String[] lines = {"x", "", " ", "   x", "^"};
        for (String line : lines) {
            Subject x = Subject.after(".nf", ".in 3", ".ti 7", line);
            Check.same("behind [" + line + "]", x.count(6), 3);
        }
        Subject y = Subject.after(".rm 9", ".in 3", ".ti 7", "aa bb cc");
        Check.same("while it is gathered", y.count(6), 7);
        y.enter(".br");
        Check.same("from the second line on", y.body(), "       aa\n   bb cc\n");
    }

    /** PAGE LENGTH 9, so BOTTOM 6. */
    private static void aFoot() {
        Check.sentence("LINE NUMBER grows by SPACING; if it is above BOTTOM then: a FOOT.");
        Subject x = Subject.after(".pl 9", ".fo F", "", "");
        Check.same("at BOTTOM none", x.body() + x.count(1), "\n\n6");
        x.enter();
        Check.same("above BOTTOM at once", x.body() + x.count(1), "\n\n\n\nF\n\n7");
        Check.sentence("A FOOT: 10, the FOOT text, 10, 10.");
        Check.same("two at BOTTOM", Subject.after(".pl 9", ".fo F", ".ls 2", "").body(), "\n\n");
        Check.same("three above BOTTOM", Subject.after(".pl 9", ".fo F", ".ls 3", "").body(), "\n\n\n\nF\n\n");
        Check.same("the text of now", Subject.after(".pl 8", ".fo F", "", ".fo G", "").body(), "\n\n\nG\n\n");
    }

    private static void spacing() {
        Check.sentence("then as many bytes 10 as SPACING less 1");
        for (int spacing = 1; spacing <= 9; spacing++) {
            Subject x = Subject.after(".pl 99", ".nf", ".ls " + spacing, "a", "b");
            Check.same("SPACING " + spacing, x.body(), "a" + "\n".repeat(spacing) + "b" + "\n".repeat(spacing));
            Check.same("LINE NUMBER", x.count(1), 4 + 2 * spacing);
            Check.same("lines PUT", x.count(15), 2);
        }
    }

    /** LINE NUMBER is 4 at the line, BOTTOM from 5 to 13: 1 to 9 lines fit below it. */
    private static void spacingBeyondBottom() {
        Check.sentence("or BOTTOM less LINE NUMBER (0 at least), whichever is less");
        for (int below = 1; below <= 9; below++) {
            for (int spacing = 1; spacing <= 9; spacing++) {
                Subject x = Subject.after(".pl " + (7 + below), ".fo F", ".ls " + spacing, "");
                String foot = spacing > below ? "\nF\n\n" : "";
                Check.same("SPACING " + spacing + " above " + below, x.body(),
                        "\n" + "\n".repeat(Math.min(spacing - 1, below)) + foot);
                Check.same("LINE NUMBER", x.count(1), 4 + spacing);
            }
        }
        Subject y = Subject.after(".pl 8", "", ".ls 9");
        y.wipe();
        y.enter();
        Check.same("at BOTTOM none", y.output(), "\n\n\n\n");
        Check.same("LINE NUMBER above BOTTOM", y.count(1), 14);
    }

    private static void pageLengths() {
        Check.sentence("BOTTOM is PAGE LENGTH less 3.");
        int[] lengths = {8, 9, 24, 98, 99};
        for (int length : lengths) {
            Subject x = Subject.after(".pl " + length);
            int lines = 0;
            while (x.count(2) < 2 && lines < 100) {
                x.enter();
                lines++;
            }
            Check.same("lines on a page of " + length, lines - 1, length - 6);
        }
    }

    private static void pageLengthInTheMidst() {
        Check.sentence("if LINE NUMBER is 0 or above BOTTOM: a HEAD");
        String[] text = {".fo F", "", "", "", ""};
        Subject x = Subject.after(text);
        x.enter(".pl 11");
        x.wipe();
        x.enter();
        Check.same("LINE NUMBER 8 at the new BOTTOM", x.output(), "\n\nF\n\n");
        Subject y = Subject.after(text);
        y.enter(".pl 10");
        y.wipe();
        y.enter();
        Check.same("LINE NUMBER 8 above the new BOTTOM", y.output(), "\n\n\n\n");
        Check.same("second page", y.count(2), 2);
        Subject z = Subject.after(".pl 8", "", "", ".pl 9");
        z.wipe();
        z.enter();
        Check.same("the new BOTTOM behind a FOOT", z.output() + z.count(1) + z.count(2), "\n\n\n\n71");
    }

    private static void pageNumbers() {
        Check.sentence("A HEAD: THE PAGE is THE NEXT PAGE (1 at first), which becomes one more");
        Subject x = Subject.after(".pl 8", ".ls 9");
        Check.same("before any", x.count(2) * 10 + x.count(3), 1);
        x.enter();
        Check.same("first", x.count(2) * 10 + x.count(3), 12);
        x.enter();
        Check.same("second", x.count(2) * 10 + x.count(3), 23);
        x.enterAll(".bp 998", "");
        Check.same("998", x.count(2) * 10000 + x.count(3), 9980999);
        x.enter();
        Check.same("999", x.count(2) * 10000 + x.count(3), 9991000);
        x.enter();
        Check.same("1000", x.count(2) * 10000 + x.count(3), 10001001);
        x.enterAll(".bp 1", "");
        Check.same("1 again", x.count(2) * 10 + x.count(3), 12);
    }

    private static void numbersInTexts() {
        Check.sentence("In both texts each # is THE PAGE in digits.");
        int[] pages = {1, 9, 10, 11, 99, 100, 101, 998, 999};
        for (int page : pages) {
            Subject x = Subject.after(".pl 8", ".ls 9", ".he #", ".fo a#b", ".bp " + page, "");
            Check.same("page " + page, x.output(), "\n" + page + "\n\n\n\n\na" + page + "b\n\n");
        }
        Subject y = Subject.after(".pl 8", ".ls 9", ".he ##-#", ".fo #", ".bp 999", "");
        y.wipe();
        y.enter();
        Check.same("page 1000", y.output(), "\n10001000-1000\n\n\n\n\n1000\n\n");
        Subject w = Subject.after(".pl 8", ".fo #", "", "", ".bp 50", ".pl 9");
        w.wipe();
        w.enter();
        Check.same("THE PAGE, whatever THE NEXT PAGE is", w.output() + w.count(3), "\n\n1\n\n50");
        Subject z = Subject.after(".he" + "#".repeat(97), ".bp 123", "");
        Check.same("97 of them", z.output(), "\n" + "123".repeat(97) + "\n\n\n");
        Subject v = Subject.after(".he \"$ ^", "");
        Check.same("the bytes beside it are not", v.output(), "\n\"$ ^\n\n\n");
        Subject u = Subject.after(".nf", "#");
        Check.same("nor one in a line", u.body(), "#\n");
    }
}
