/** Promise 4: finish. */
public final class FinishTest {
    private static final int[] AT_FIRST = {0, 0, 0, 1, 40, 0, 0, 1, 0, 0, 24, 1, 1};

    public static void main(String[] args) {
        endsThePage();
        withoutAPage();
        pageEndedAlready();
        allIsAsAtFirst();
        keepsWhatItTells();
        Check.end();
    }

    private static void endsThePage() {
        PageFormatter x = Check.after(".pl 9", ".fo F#", "one two");
        Check.same("lines", x.finish(), 1);
        Check.same("foot", Check.output(x), "\n\n\none two\n\n\n\nF1\n\n");
        Check.same("again", x.finish(), 0);
        Check.same("no more bytes", x.length(), 18);
    }

    private static void withoutAPage() {
        PageFormatter x = Check.after(".rm 20", "^");
        Check.same("no words", x.finish(), 0);
        Check.same("no bytes", x.length(), 0);
    }

    private static void pageEndedAlready() {
        PageFormatter x = Check.after(".pl 8", ".nf", "a", "b");
        int had = x.length();
        Check.same("lines", x.finish(), 0);
        Check.same("no foot twice", x.length(), had);
    }

    private static void allIsAsAtFirst() {
        PageFormatter x = Check.after(".pl 30", ".he H", ".fo F", ".rm 30", ".in 3", ".ti 5", ".ls 2", ".na", ".nf",
                "text", ".bp 50", ".ce 5", ".ul 6", "centred");
        Check.type(x, "left over");
        Check.same("LINE before", x.count(16), 9);
        x.finish();
        for (int what = 0; what < AT_FIRST.length; what++) {
            Check.same("count(" + what + ")", x.count(what), AT_FIRST[what]);
        }
        Check.same("the LINE is empty", x.count(16), 0);
        x.wipe();
        Check.enterAll(x, "word", ".br");
        Check.same("no head", Check.output(x), "\n\n\nword\n");
        x.finish();
        Check.same("no foot", Check.output(x), "\n\n\nword\n" + "\n".repeat(17) + "\n\n\n");
    }

    private static void keepsWhatItTells() {
        PageFormatter x = Check.after(".rm 5", ".xx", ".yy", "ab cd ef");
        Check.same("lines", x.finish(), 2);
        Check.same("lines of the PARAGRAPH", x.count(13), 2);
        Check.same("passed over", x.count(14), 2);
        Check.same("lines PUT", x.count(15), 2);
        Check.same("demerits", x.demerits(), 2);
        Check.same("line", Check.facts(x, 0), "5 0 0 1 0 5");
        Check.enterAll(x, ".zz", "");
        Check.same("they go on", x.count(14) * 10 + x.count(15), 33);
    }
}
