/** The last of the calls that are promised, and what no run may make throw. */
public final class LimitTest {
    private static final int[] ODD = {Integer.MIN_VALUE, -1000000, -1, 0, 1, 5, 6, 17, 99, 3999, 4000, 19999, 20000,
        Integer.MAX_VALUE};

    public static void main(String[] args) {
        lastCalls();
        mostPlaces(1);
        mostPlaces(40);
        mostPlaces(80);
        mostPages();
        nothingThrows();
        Check.end();
    }

    private static void lastCalls() {
        Check.sentence("An object is used for at most 512 calls after it has been made");
        for (int last = 511; last <= 512; last++) {
            Subject x = Subject.after(".rm 5", "aa bb cc", ".br");
            while (Subject.MOST_CALLS - x.callsLeft() < last - 3) {
                x.enter();
            }
            Check.same("type() before the last", x.type(Subject.packed(".xx"), 3), 3);
            Check.same("enter() before the last", x.enter(), 0);
            Check.same("call " + last, x.count(14), 1);
            Check.same("calls left", x.callsLeft(), 512 - last);
        }
        Subject y = new Subject();
        for (int i = 0; i < 511; i++) {
            y.enter();
        }
        Check.same("511 lines PUT, in the 512th call", y.count(15), 511);
        Subject z = new Subject();
        for (int i = 0; i < 255; i++) {
            z.enter(".x");
        }
        Check.same("255 LINES passed over", z.count(14), 255);
    }

    /** 35 words of 50 bytes, a hyphen point between each two: nearly as many places as 512 calls can bring. */
    private static void mostPlaces(int right) {
        Check.sentence("each line goes from behind the end of the one before (or the beginning) to one of the places");
        Subject x = Subject.after(".rm " + right);
        for (int i = 0; i < 35; i++) {
            x.enter("a" + "^b".repeat(49));
        }
        Check.same("words", x.count(0), 35);
        int lines = x.enter(".br");
        Check.same("lines", x.count(13), lines);
        if (right == 1) {
            Check.same("one to each place", lines, 1750);
            Check.same("their demerits", x.demerits(), 1715 * (10001L * 10001 + 3000) + 35 + 1680 * 10000L
                    + 69 * 5000L);
            Check.same("the last line", x.line(1749, 0), 1);
            Check.same("none behind it", x.line(1750, 0), PageFormatter.NONE);
        } else {
            Check.same("the first line", x.line(0, 5), right);
        }
    }

    /** A page for each of 500 lines. */
    private static void mostPages() {
        Check.sentence("A HEAD: THE PAGE is THE NEXT PAGE (1 at first), which becomes one more");
        Subject x = Subject.after(".pl 8", ".rm 1", ".ls 9", ".he #", ".bp 999");
        for (int i = 0; i < 10; i++) {
            x.enter("a" + "^b".repeat(49));
        }
        Check.same("lines", x.enter(".br"), 500);
        Check.same("THE PAGE", x.count(2), 1498);
        Check.same("THE NEXT PAGE", x.count(3), 1499);
    }

    /** Behind the 512th call the answers are free, but no call may throw: 80 words, 50 places each, a line to each. */
    private static void nothingThrows() {
        Check.sentence("nothing about an object after its 512th call");
        PageFormatter x = new PageFormatter();
        oddArguments(x);
        x.type(Subject.packed(".rm 1"), 5);
        x.enter();
        for (int i = 0; i < 81; i++) {
            for (int k = 0; k < 12; k++) {
                x.type(Subject.packed("a^b^c^d^"), 8);
            }
            x.type(Subject.packed("a^b"), 3);
            oddArguments(x);
            x.enter();
        }
        x.finish();
        oddArguments(x);
    }

    private static void oddArguments(PageFormatter x) {
        for (int i : ODD) {
            x.at(i);
            x.count(i);
            x.demerits();
            for (int what : ODD) {
                x.line(i, what);
            }
            if (i < 1 || i > 8) {
                Check.same("type(.., " + i + ")", x.type(Long.MIN_VALUE, i), PageFormatter.BAD);
            }
        }
    }
}
