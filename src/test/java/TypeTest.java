/** Promise 2, type, and which bytes a LINE takes. */
public final class TypeTest {
    private static final String EIGHT = "abcdefgh";

    public static void main(String[] args) {
        theLowestFirst();
        wrongNumbers();
        bytesThatAreTaken();
        full();
        fullByBytesNotTaken();
        aHundredComeIn();
        Check.end();
    }

    private static Subject withBytes(int n) {
        Subject x = new Subject();
        x.type("x".repeat(n));
        return x;
    }

    private static void theLowestFirst() {
        Check.sentence("Up to eight bytes more of the LINE: of w the lowest n (1 .. 8), the lowest first");
        for (int n = 1; n <= 8; n++) {
            Subject x = new Subject();
            Check.same("n = " + n, x.type(Subject.packed(EIGHT), n), n);
            Check.same("count(16)", x.count(16), n);
            Check.same("n = 2 then", x.type(Subject.packed("YZ"), 2), n + 2);
            x.enter();
            Check.same("count(16) behind enter()", x.count(16), 0);
            x.enter(".br");
            Check.same("bytes", x.body(), EIGHT.substring(0, n) + "YZ\n");
        }
        Check.same("a w below 0", new Subject().type(Long.MIN_VALUE | 'q', 1), 1);
    }

    private static void wrongNumbers() {
        Check.sentence("BAD: n; FULL, and none comes");
        int[] bad = {0, -1, 9, 10, 64, Integer.MAX_VALUE, Integer.MIN_VALUE};
        int[] sizes = {0, 92, 93, 99, 100};
        for (int size : sizes) {
            Subject x = withBytes(size);
            for (int n : bad) {
                Check.same("type(.., " + n + ")", x.type(Subject.packed(EIGHT), n), PageFormatter.BAD);
            }
            Check.same("bytes then", x.count(16), size);
        }
    }

    private static void bytesThatAreTaken() {
        Check.sentence("126 (others are not taken).");
        for (int place = 0; place < 8; place++) {
            Subject x = new Subject();
            for (int b = 0; b < 256; b++) {
                int taken = b >= 32 && b <= 126 ? 1 : 0;
                Check.same("byte " + b + " at " + place, x.type((long) b << 8 * place, 8), taken);
                if (taken == 1) {
                    x.enter();
                }
            }
        }
        Check.sentence("those taken that are 32 .. 126: how many it has.");
        Subject y = new Subject();
        Check.same("31, 32, 126, 127 among others", y.type(0x7F617E1F62800A20L, 8), 4);
        Check.same("none of eight", y.type(-1L, 8), 4);
        y.enter(".");
        y.enter(".br");
        Check.same("in their order", y.body(), " b~a.\n");
    }

    private static void full() {
        Check.sentence("FULL, and none comes: it would have more than 100 with all n");
        for (int n = 1; n <= 8; n++) {
            Check.same("99 with n = " + n, withBytes(99 - n).type(Subject.packed(EIGHT), n), 99);
            Check.same("100 with n = " + n, withBytes(100 - n).type(Subject.packed(EIGHT), n), 100);
            Subject x = withBytes(101 - n);
            Check.same("101 with n = " + n, x.type(Subject.packed(EIGHT), n), PageFormatter.FULL);
            Check.same("none came", x.count(16), 101 - n);
        }
        Subject y = withBytes(100);
        Check.same("one more", y.type('m', 1), PageFormatter.FULL);
        y.enter();
        Check.same("empty again", y.type('m', 1), 1);
    }

    private static void fullByBytesNotTaken() {
        Check.sentence("it would have more than 100 with all n (also those that are not taken).");
        for (int n = 1; n <= 8; n++) {
            Check.same("100 with n = " + n, withBytes(100 - n).type(0, n), 100 - n);
            Subject x = withBytes(101 - n);
            Check.same("101 with n = " + n, x.type(0, n), PageFormatter.FULL);
            Check.same("none came", x.count(16), 101 - n);
        }
        Subject y = withBytes(96);
        Check.same("one of five", y.type(Subject.packed("i\0\0\0\0"), 5), PageFormatter.FULL);
        Check.same("one of four", y.type(Subject.packed("\0\0\0i"), 4), 97);
        Check.same("and three", y.type(Subject.packed("jkl"), 3), 100);
        Check.same("one that is not taken", y.type(0, 1), PageFormatter.FULL);
    }

    private static void aHundredComeIn() {
        Check.sentence("A LINE has up to 100 bytes, each 32 ..");
        for (int n = 99; n <= 100; n++) {
            Subject x = Subject.after(".nf");
            String line = "x".repeat(n - 1) + "y";
            Check.same("lines", x.enter(line), 1);
            Check.same("bytes", x.body(), line + "\n");
        }
        Check.same("the 101st is refused by itself", withBytes(100).type('z', 1), PageFormatter.FULL);
    }
}
