/** Promise 1: all as at first, an empty LINE. */
public final class NewObjectTest {
    private static final int[] AT_FIRST = {0, 0, 0, 1, 40, 0, 0, 1, 0, 0, 24, 1, 1, 0, 0, 0, 0};

    public static void main(String[] args) {
        PageFormatter x = new PageFormatter();
        for (int what = 0; what < AT_FIRST.length; what++) {
            Check.same("count(" + what + ")", x.count(what), AT_FIRST[what]);
        }
        Check.same("length()", x.length(), 0);
        Check.same("at(0)", x.at(0), PageFormatter.NONE);
        Check.same("demerits()", x.demerits(), PageFormatter.NONE);
        Check.same("line(0, 0)", x.line(0, 0), PageFormatter.NONE);
        Check.same("finish()", x.finish(), 0);
        Check.same("wipe()", x.wipe(), 0);
        twoObjectsAreApart();
        headAndFootAreEmpty();
        Check.end();
    }

    private static void twoObjectsAreApart() {
        PageFormatter one = new PageFormatter();
        PageFormatter other = new PageFormatter();
        Check.enterAll(one, ".rm 20", ".he h", "word", ".br");
        Check.same("other's RIGHT", other.count(4), 40);
        Check.same("other's OUTPUT", other.length(), 0);
        Check.same("other's PARAGRAPH", other.demerits(), PageFormatter.NONE);
    }

    private static void headAndFootAreEmpty() {
        PageFormatter x = Check.after(".pl 8", ".nf", "a", "b");
        Check.same("empty head and foot", Check.output(x), "\n\n\na\nb\n\n\n\n");
    }
}
