/** Long PARAGRAPHS, the most places a PARAGRAPH can have, and wrong arguments in every state. */
public final class LimitTest {
    private static final int[] ODD = {Integer.MIN_VALUE, -1000000, -1, 0, 1, 5, 6, 17, 99, 3999, 4000, 19999, 20000,
        Integer.MAX_VALUE};

    public static void main(String[] args) {
        for (int right = 1; right <= 80; right += 79) {
            manyPlaces(36, right);
            manyPlaces(80, right);
        }
        manyPages();
        nothingThrows();
        Check.end();
    }

    /** Fifty letters in each word, and a hyphen point between each two. */
    private static void manyPlaces(int words, int right) {
        PageFormatter x = Check.after(".rm " + right);
        for (int i = 0; i < words; i++) {
            Check.enter(x, "a" + "^b".repeat(49));
        }
        Check.same("words", x.count(0), words);
        int lines = Check.enter(x, ".br");
        Check.same("lines", x.count(13), lines);
        Check.same("sum", x.demerits(), sumOfLines(x));
        int letters = 0;
        for (int i = 0; i < lines; i++) {
            letters += x.line(i, 0) - x.line(i, 3) - x.line(i, 4);
        }
        Check.same("letters", letters, words * 50);
        oddArguments(x);
    }

    private static long sumOfLines(PageFormatter x) {
        long sum = 0;
        for (int i = 0; i < x.count(13); i++) {
            long badness = x.line(i, 2);
            sum += (1 + badness) * (1 + badness) + 3000 * x.line(i, 4);
            if (i > 0) {
                sum += x.line(i, 4) * x.line(i - 1, 4) * 10000;
                sum += Math.abs(kind(badness) - kind(x.line(i - 1, 2))) == 2 ? 5000 : 0;
            }
        }
        return sum;
    }

    private static int kind(long badness) {
        return badness < 13 ? 0 : badness < 100 ? 1 : 2;
    }

    private static void manyPages() {
        PageFormatter x = Check.after(".pl 8", ".rm 1", ".ls 9", ".he #", ".bp 999");
        for (int i = 0; i < 10; i++) {
            Check.enter(x, "a" + "^b".repeat(49));
        }
        Check.same("one line a page", Check.enter(x, ".br"), 500);
        Check.same("THE PAGE", x.count(2), 1498);
        Check.same("THE NEXT PAGE", x.count(3), 1499);
        Check.enter(x, ".bp");
        Check.same("brought to its bounds", x.count(3), 999);
    }

    private static void nothingThrows() {
        PageFormatter x = new PageFormatter();
        oddArguments(x);
        Check.enter(x, "word");
        oddArguments(x);
        x.finish();
        oddArguments(x);
    }

    private static void oddArguments(PageFormatter x) {
        for (int i : ODD) {
            Check.same("at(" + i + ")", x.at(i), i < 0 || i >= x.length() ? PageFormatter.NONE : x.at(i));
            if (i < 0 || i > 16) {
                Check.same("count(" + i + ")", x.count(i), PageFormatter.BAD);
            }
            for (int what : ODD) {
                boolean none = i < 0 || i >= x.count(13);
                if (none || what < 0 || what > 5) {
                    Check.same("line(" + i + ", " + what + ")", x.line(i, what),
                            none ? PageFormatter.NONE : PageFormatter.BAD);
                }
            }
            if (i < 1 || i > 8) {
                Check.same("type(.., " + i + ")", x.type(Long.MIN_VALUE, i), PageFormatter.BAD);
            }
        }
    }
}
