/** Promise 3, enter: SPACE, by the commands sp and bp. */
public final class SpaceTest {
    public static void main(String[] args) {
        aBreakFirst();
        aHeadIfNoPageIsBegun();
        byZero();
        asManyAsAreLeft();
        notAboveBottom();
        newPage();
        newPageWithoutAPage();
        newPageBehindAFoot();
        Check.end();
    }

    /** PAGE LENGTH 9, so BOTTOM 6, and lines PUT up to LINE NUMBER; THE OUTPUT is empty. */
    private static Subject atLine(int number) {
        Subject x = Subject.after(".pl 9", ".he H#", ".fo F#");
        if (number >= 4) {
            x.enter(".sp 0");
        }
        for (int i = 4; i < number; i++) {
            x.enter();
        }
        Check.same("LINE NUMBER before", x.count(1), number);
        x.wipe();
        return x;
    }

    private static void aBreakFirst() {
        Check.sentence("SPACE by n: a BREAK");
        Subject x = Subject.after("word");
        Check.same("lines", x.enter(".sp 2"), 1);
        Check.same("bytes", x.body(), "word\n\n\n");
        Subject y = Subject.after("word", ".sp 0");
        Check.same("by 0", y.body() + y.count(13), "word\n1");
        Subject z = atLine(7);
        z.enter("word");
        Check.same("above BOTTOM the BREAK begins a page", z.enter(".sp 1"), 1);
        Check.same("and the SPACE is on it", z.output(), "\nH2\n\nword\n\n");
    }

    private static void aHeadIfNoPageIsBegun() {
        Check.sentence("if LINE NUMBER is not above BOTTOM: a HEAD if it is 0");
        Subject x = atLine(0);
        Check.same("lines", x.enter(".sp 1"), 0);
        Check.same("bytes", x.output() + x.count(1) + x.count(2), "\nH1\n\n\n51");
        x.wipe();
        x.enter(".sp 1");
        Check.same("not twice", x.output() + x.count(1) + x.count(2), "\n61");
    }

    private static void byZero() {
        Check.sentence("as many bytes 10 as n");
        Subject x = atLine(0);
        x.enter(".sp 0");
        Check.same("no page begun", x.output() + x.count(1), "\nH1\n\n4");
        for (int number = 4; number <= 7; number++) {
            Subject y = atLine(number);
            y.enter(".sp 0");
            Check.same("at " + number, y.output() + y.count(1), "" + number);
        }
    }

    private static void asManyAsAreLeft() {
        Check.sentence("as many bytes 10 as n, or BOTTOM and 1 less LINE NUMBER, whichever is less; it grows by n;"
                + " a FOOT if it is above BOTTOM then.");
        for (int number = 4; number <= 6; number++) {
            for (int n = 0; n <= 5; n++) {
                Subject x = atLine(number);
                x.enter(".sp " + n);
                int left = 7 - number;
                Check.same("by " + n + " at " + number, x.output(),
                        "\n".repeat(Math.min(n, left)) + (n >= left ? "\nF1\n\n" : ""));
                Check.same("LINE NUMBER", x.count(1), number + n);
            }
        }
        Subject y = atLine(0);
        y.enter(".sp 99");
        Check.same("by 99 on a new page", y.output() + y.count(1), "\nH1\n\n\n\n\n\nF1\n\n103");
        Check.same("by 92 on the longest page", Subject.after(".pl 99", ".fo F", ".sp 92").length(), 3 + 92);
        Check.same("by 93", Subject.after(".pl 99", ".fo F", ".sp 93").length(), 3 + 93 + 4);
        Check.same("by 94", Subject.after(".pl 99", ".fo F", ".sp 94").length(), 3 + 93 + 4);
    }

    private static void notAboveBottom() {
        Check.sentence("then, if LINE NUMBER is not above BOTTOM");
        Subject x = atLine(6);
        x.enter(".sp 1");
        Check.same("at BOTTOM", x.output() + x.count(1), "\n\nF1\n\n7");
        Subject y = atLine(7);
        y.enter(".sp 1");
        Check.same("above BOTTOM", y.output() + y.count(1), "7");
        y.enter(".sp 99");
        Check.same("by 99", y.output() + y.count(1) + y.count(2), "71");
        Subject z = atLine(6);
        z.enterAll(".pl 8", ".sp 5");
        Check.same("above a new BOTTOM", z.output() + z.count(1), "6");
    }

    private static void newPage() {
        Check.sentence("bp: if a page is begun SPACE by 99");
        for (int number = 4; number <= 6; number++) {
            Subject x = atLine(number);
            x.enter(".bp");
            Check.same("at " + number, x.output() + x.count(1), "\n".repeat(7 - number) + "\nF1\n\n" + (number + 99));
            Check.same("THE NEXT PAGE", x.count(3), 2);
        }
        Subject y = atLine(5);
        y.enter("word");
        Check.same("its BREAK", y.enter(".bp 7"), 1);
        Check.same("its page", y.output(), "word\n\n\nF1\n\n");
        Check.same("behind it THE NEXT PAGE", y.count(2) * 10 + y.count(3), 17);
    }

    private static void newPageWithoutAPage() {
        Check.sentence("(else no BREAK either)");
        Subject x = Subject.after("word");
        Check.same("lines", x.enter(".bp 7"), 0);
        Check.same("words", x.count(0), 1);
        Check.same("bytes, LINE NUMBER, THE PAGE", x.length() + x.count(1) + x.count(2), 0);
        Check.same("THE NEXT PAGE", x.count(3), 7);
        x.enter(".br");
        Check.same("its page then", x.count(2), 7);
        Subject y = Subject.after(".sp 0", "word");
        Check.same("a page begun without lines", y.enter(".bp"), 1);
        Subject z = Subject.after("");
        z.finish();
        z.enter("word");
        Check.same("none behind finish()", z.enter(".bp"), 0);
    }

    /** LINE NUMBER above BOTTOM is not 0, so the page is begun still. */
    private static void newPageBehindAFoot() {
        Check.sentence("if a page is begun SPACE by 99");
        Subject x = atLine(7);
        x.enter(".bp");
        Check.same("no FOOT twice", x.output() + x.count(1) + x.count(3), "72");
        x.enter(".bp +5");
        Check.same("THE NEXT PAGE alone", x.length() * 10 + x.count(3), 7);
        x.enter("word");
        Check.same("a BREAK", x.enter(".bp"), 1);
        Check.same("a page of its own", x.output(), "\nH7\n\nword\n\n\n\nF7\n\n");
    }
}
