/** Promise 2: type. */
public final class TypeTest {
    public static void main(String[] args) {
        takesTheLowestFirst();
        refusesBadNumbers();
        leavesOtherBytesOut();
        isFullAboveAHundred();
        Check.end();
    }

    private static void takesTheLowestFirst() {
        PageFormatter x = new PageFormatter();
        x.enter();
        x.wipe();
        Check.same("n = 3", x.type(Check.packed("abcdefgh"), 3), 3);
        Check.same("n = 8", x.type(Check.packed("ABCDEFGH"), 8), 11);
        Check.same("n = 1", x.type(Check.packed("z"), 1), 12);
        Check.same("count(16)", x.count(16), 12);
        x.enter();
        Check.enter(x, ".br");
        Check.same("bytes", Check.output(x), "abcABCDEFGHz\n");
        Check.same("count(16) then", x.count(16), 0);
    }

    private static void refusesBadNumbers() {
        PageFormatter x = new PageFormatter();
        int[] bad = {0, -1, 9, Integer.MAX_VALUE, Integer.MIN_VALUE};
        for (int n : bad) {
            Check.same("type(.., " + n + ")", x.type(Check.packed("abcdefgh"), n), PageFormatter.BAD);
        }
        Check.same("nothing came", x.count(16), 0);
        for (int i = 0; i < 12; i++) {
            x.type(Check.packed("abcdefgh"), 8);
        }
        Check.same("BAD stands before FULL", x.type(0, 9), PageFormatter.BAD);
    }

    private static void leavesOtherBytesOut() {
        PageFormatter x = new PageFormatter();
        for (int b = 0; b < 256; b++) {
            int before = x.count(16);
            int taken = b >= 32 && b <= 126 ? 1 : 0;
            if (before == 100) {
                x.enter();
                before = 0;
            }
            Check.same("byte " + b, x.type(b, 1), before + taken);
        }
        PageFormatter y = new PageFormatter();
        Check.same("some of eight", y.type(0x7F617E1F62800A20L, 8), 4);
        Check.same("none of eight", y.type(-1L, 8), 4);
        Check.same("all of w below", y.type(Long.MIN_VALUE | 'q', 1), 5);
        y.enter();
        Check.enter(y, ".br");
        Check.same("order", Check.body(y), " b~aq\n");
    }

    private static void isFullAboveAHundred() {
        PageFormatter x = new PageFormatter();
        for (int i = 1; i <= 12; i++) {
            Check.same("filling", x.type(Check.packed("abcdefgh"), 8), 8 * i);
        }
        Check.same("101 with all", x.type(Check.packed("abcde"), 5), PageFormatter.FULL);
        Check.same("101 with those not taken", x.type(0, 5), PageFormatter.FULL);
        Check.same("none came", x.count(16), 96);
        Check.same("100 with those not taken", x.type('i', 4), 97);
        Check.same("100", x.type(Check.packed("jkl"), 3), 100);
        Check.same("one more", x.type('m', 1), PageFormatter.FULL);
        Check.same("one more that is not taken", x.type(0, 1), PageFormatter.FULL);
        Check.same("still", x.count(16), 100);
        x.enter();
        Check.same("empty again", x.type('m', 1), 1);
    }
}
