/** Promise 10: count. */
public final class CountTest {
    public static void main(String[] args) {
        PageFormatter x = Check.after(".rm 30", ".in 2", ".ls 3", ".pl 50", ".bp 6", ".zz", "a b", ".br", "   c d e",
                ".ul 4", ".na");
        Check.type(x, "typed");
        int[] due = {3, 7, 6, 7, 30, 2, 5, 3, 0, 4, 50, 1, 0, 1, 1, 1, 5};
        for (int what = 0; what < due.length; what++) {
            Check.same("count(" + what + ")", x.count(what), due[what]);
        }
        int[] bad = {-1, 17, 18, Integer.MAX_VALUE, Integer.MIN_VALUE};
        for (int what : bad) {
            Check.same("count(" + what + ")", x.count(what), PageFormatter.BAD);
        }
        x.enter();
        Check.enterAll(x, ".nf", ".ce 3");
        Check.same("FILL", x.count(11), 0);
        Check.same("CENTRED", x.count(8), 3);
        Check.same("lines PUT", x.count(15), 2);
        Check.same("UNDERLINED", x.count(9), 3);
        Check.end();
    }
}
