/** Promise 4: finish. */
public final class FinishTest {
    private static final int[] AT_FIRST = {0, 0, 0, 1, 40, 0, 0, 1, 0, 0, 24, 1, 1};

    public static void main(String[] args) {
        endsThePage();
        noPageIsBegun();
        atAndAboveBottom();
        allIsAsAtFirst();
        headAndFootAreEmpty();
        keepsWhatItTells();
        Check.end();
    }

    private static void endsThePage() {
        Check.sentence("A BREAK, and SPACE by 99, if a page is begun then: how many lines were PUT");
        Subject x = Subject.after(".pl 9", ".fo F#", "one two");
        Check.same("lines", x.finish(), 1);
        Check.same("bytes", x.output(), "\n\n\none two\n\n\n\nF1\n\n");
        Check.same("again", x.finish(), 0);
        Check.same("no more bytes", x.length(), 18);
        Check.same("two lines", Subject.after(".rm 5", "aa bb cc").finish(), 2);
        Check.same("not those before", Subject.after("", "").finish(), 0);
    }

    private static void noPageIsBegun() {
        Check.sentence("if a page is begun then");
        Subject x = Subject.after(".rm 20", "^", ".bp 5");
        Check.same("no words: lines", x.finish(), 0);
        Check.same("no words: bytes", x.length(), 0);
        Subject y = Subject.after("word");
        Check.same("the BREAK begins one: lines", y.finish(), 1);
        Check.same("the BREAK begins one: bytes", y.length(), 3 + 5 + 17 + 3);
        Subject z = Subject.after(".sp 0");
        Check.same("a page without lines", z.finish(), 0);
        Check.same("is ended", z.length(), 3 + 18 + 3);
    }

    /** PAGE LENGTH 8, so BOTTOM 5. */
    private static void atAndAboveBottom() {
        Check.sentence("A BREAK, and SPACE by 99, if a page is begun then");
        Subject x = Subject.after(".pl 8", ".fo F", "");
        x.finish();
        Check.same("at BOTTOM", x.body(), "\n\n\nF\n\n");
        Subject y = Subject.after(".pl 8", ".fo F", "", "");
        y.finish();
        Check.same("above BOTTOM", y.body(), "\n\n\nF\n\n");
        Subject z = Subject.after(".pl 8", ".fo F", "", "", "word");
        Check.same("lines on a new page", z.finish(), 1);
        Check.same("above BOTTOM, words", z.body(), "\n\n\nF\n\n" + "\n\n\nword\n\n\nF\n\n");
    }

    private static void allIsAsAtFirst() {
        Check.sentence("then all is as at first");
        Subject x = Subject.after(".pl 30", ".rm 30", ".in 3", ".ti 5", ".ls 2", ".na", ".nf", "text", ".bp 50",
                ".ce 5", ".ul 6", "centred");
        x.type("left over");
        Check.same("bytes of the LINE before", x.count(16), 9);
        x.finish();
        for (int what = 0; what < AT_FIRST.length; what++) {
            Check.same("count(" + what + ")", x.count(what), AT_FIRST[what]);
        }
        Check.same("bytes of the LINE", x.count(16), 0);
        Subject y = Subject.after("a b c");
        y.finish();
        Check.same("words", y.count(0), 0);
        y.enterAll("d", ".br");
        Check.same("no words of before", y.line(0, 0), 1);
    }

    private static void headAndFootAreEmpty() {
        Check.sentence("HEAD, FOOT are the REST (empty at first).");
        Subject x = Subject.after(".he H", ".fo F", "word");
        x.finish();
        x.wipe();
        x.enterAll("word", ".br");
        Check.same("no HEAD", x.output(), "\n\n\nword\n");
        x.finish();
        Check.same("no FOOT", x.output(), "\n\n\nword\n" + "\n".repeat(17) + "\n\n\n");
    }

    private static void keepsWhatItTells() {
        Check.sentence("but for THE OUTPUT, the latest PARAGRAPH that was parted, and what count() tells"
                + " for 13 to 15.");
        Subject x = Subject.after(".rm 5", ".xx", ".yy", "ab cd ef");
        x.finish();
        Check.same("lines of the PARAGRAPH", x.count(13), 2);
        Check.same("passed over", x.count(14), 2);
        Check.same("lines PUT", x.count(15), 2);
        Check.same("demerits()", x.demerits(), 2);
        Check.same("line 0", x.facts(0), "5 0 0 1 0 5");
        Check.same("line 1", x.facts(1), "2 3 0 0 0 5");
        Check.same("THE OUTPUT", x.length(), 3 + 6 + 3 + 16 + 3);
        x.enterAll(".zz", "");
        Check.same("they go on", x.count(14) * 10 + x.count(15), 33);
        Check.same("so does THE OUTPUT", x.length(), 31 + 4);
    }
}
