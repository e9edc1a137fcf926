/** Promise 3, enter: TO PUT, HEAD, FOOT and SPACE. */
public final class PageTest {
    public static void main(String[] args) {
        lineNumbers();
        spacing();
        space();
        pageLengthInTheMidst();
        outputIsLimited();
        Check.end();
    }

    private static void lineNumbers() {
        PageFormatter x = Check.after(".pl 8", ".nf", ".he H#", ".fo F#", "a");
        Check.same("behind one", x.count(1), 5);
        Check.enter(x, "b");
        Check.same("above BOTTOM", x.count(1), 6);
        Check.same("foot at once", Check.output(x), "\nH1\n\na\nb\n\nF1\n\n");
        Check.enter(x, "c");
        Check.same("next page", x.count(1) * 100 + x.count(2) * 10 + x.count(3), 523);
        Check.same("head then", Check.output(x).substring(14), "\nH2\n\nc\n");
        PageFormatter y = Check.after(".bp 998", ".pl 8", ".nf", ".he #", "a", "b", "c", "d", "e");
        Check.same("page 1000", Check.output(y), "\n998\n\na\nb\n\n\n\n\n999\n\nc\nd\n\n\n\n\n1000\n\ne\n");
        Check.same("the next one", y.count(3), 1001);
    }

    private static void spacing() {
        PageFormatter x = Check.after(".pl 9", ".nf", ".ls 2", "a");
        Check.same("two", Check.body(x), "a\n\n");
        Check.same("LINE NUMBER", x.count(1), 6);
        Check.enter(x, "b");
        Check.same("cut at BOTTOM", Check.body(x), "a\n\nb\n\n\n\n");
        Check.same("LINE NUMBER then", x.count(1), 8);
        PageFormatter y = Check.after(".pl 8", ".nf", ".ls 9", "a");
        Check.same("nine", Check.body(y), "a\n\n\n\n\n");
        Check.same("LINE NUMBER of nine", y.count(1), 13);
        Check.same("lines PUT", y.count(15), 1);
        PageFormatter z = Check.after(".ls 3", "", ".ls 1", "");
        Check.same("empty lines too", Check.body(z), "\n\n\n\n");
    }

    private static void space() {
        PageFormatter x = Check.after(".pl 9", ".fo F", ".he H", ".sp");
        Check.same("a head first", Check.output(x) + x.count(1), "\nH\n\n\n5");
        Check.enter(x, ".sp 0");
        Check.same("by 0", x.count(1), 5);
        Check.enter(x, ".sp +2");
        Check.same("not above BOTTOM plus one", Check.output(x) + x.count(1), "\nH\n\n\n\n\n\nF\n\n7");
        Check.same("none when above", Check.enter(x, ".sp 5"), 0);
        Check.same("nothing", x.length() * 100 + x.count(1), 1107);
        PageFormatter y = Check.after(".pl 9", ".sp 200");
        Check.same("ninety-nine", y.count(1), 103);
        Check.same("bytes", y.length(), 3 + 3 + 3);
        PageFormatter z = Check.after(".sp -5");
        Check.same("less than 0", z.count(1), 4);
        PageFormatter v = Check.after("word", ".sp 2");
        Check.same("behind a BREAK", Check.body(v), "word\n\n\n");
        PageFormatter u = Check.after(".sp 0");
        Check.same("0 begins a page", u.length() * 10 + u.count(1), 34);
    }

    private static void pageLengthInTheMidst() {
        PageFormatter x = Check.after(".nf", "a", "b", "c", "d", ".pl 8", "e");
        Check.same("above the new BOTTOM", Check.body(x), "a\nb\nc\nd\n\n\n\ne\n");
        Check.same("second page", x.count(2), 2);
        PageFormatter y = Check.after(".nf", ".pl 8", "a", "b", ".pl 24", "c");
        Check.same("below the new BOTTOM", Check.body(y), "a\nb\n\n\n\nc\n");
        Check.same("first page", y.count(2) * 10 + y.count(1), 17);
    }

    /** The head has 3 bytes, a line 39 + 3 * 96 + 1: the 61st one is cut behind a backspace. */
    private static void outputIsLimited() {
        PageFormatter x = Check.after(".nf", ".pl 99", ".in 39", ".ul 99");
        for (int i = 0; i < 70; i++) {
            Check.same("enter()", Check.enter(x, "x".repeat(96)), 1);
        }
        Check.same("length()", x.length(), 20000);
        Check.same("at(19998)", x.at(19998), '_');
        Check.same("at(19999)", x.at(19999), '\b');
        Check.same("at(20000)", x.at(20000), PageFormatter.NONE);
        Check.same("lines PUT", x.count(15), 70);
        Check.same("LINE NUMBER goes on", x.count(1), 74);
        Check.same("wipe()", x.wipe(), 20000);
        Check.enter(x, "y");
        Check.same("room again", x.length(), 43);
    }
}
