/** Promise 1: a new object. */
public final class NewObjectTest {
    private static final int[] AT_FIRST = {0, 0, 0, 1, 40, 0, 0, 1, 0, 0, 24, 1, 1, 0, 0, 0, 0};

    public static void main(String[] args) {
        values();
        nothingIsThere();
        headAndFoot();
        twoObjectsAreApart();
        Check.end();
    }

    private static void values() {
        Check.sentence("All as at first; an empty LINE.");
        Subject x = new Subject();
        for (int what = 0; what < AT_FIRST.length; what++) {
            Check.same("count(" + what + ")", x.count(what), AT_FIRST[what]);
        }
    }

    private static void nothingIsThere() {
        Subject x = new Subject();
        Check.sentence("How many bytes THE OUTPUT has.");
        Check.same("length()", x.length(), 0);
        Check.sentence("Byte i of it; NONE if there is none such.");
        Check.same("at(0)", x.at(0), PageFormatter.NONE);
        Check.sentence("The DEMERITS of the latest PARAGRAPH that a BREAK parted, together; NONE before any.");
        Check.same("demerits()", x.demerits(), PageFormatter.NONE);
        Check.sentence("NONE: there is none such; BAD, behind that: another what.");
        Check.same("line(0, 0)", x.line(0, 0), PageFormatter.NONE);
        Check.same("line(0, 6)", x.line(0, 6), PageFormatter.NONE);
        Check.sentence("THE OUTPUT is empty: how many bytes it had.");
        Check.same("wipe()", x.wipe(), 0);
        Check.sentence("A BREAK, and SPACE by 99, if a page is begun then: how many lines were PUT");
        Check.same("finish()", x.finish(), 0);
        Check.same("length() then", x.length(), 0);
    }

    private static void headAndFoot() {
        Check.sentence("he, fo: HEAD, FOOT are the REST (empty at first).");
        Subject x = Subject.after(".pl 8", ".nf", "a", "b");
        Check.same("a whole page", x.output(), "\n\n\na\nb\n\n\n\n");
    }

    private static void twoObjectsAreApart() {
        Check.sentence("All as at first; an empty LINE.");
        Subject other = new Subject();
        Subject.parted(".rm 20", ".he h", "word").type("typed");
        Check.same("RIGHT", other.count(4), 40);
        Check.same("the LINE", other.count(16), 0);
        Check.same("THE OUTPUT", other.length(), 0);
        Check.same("the PARAGRAPH", other.demerits(), PageFormatter.NONE);
    }
}
