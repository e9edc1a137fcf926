/** Which of all ways to part a PARAGRAPH is taken. */
public final class WaysTest {
    private static final long WORST = 10001L * 10001;

    public static void main(String[] args) {
        leastSum();
        fewestLines();
        shorterFirstLine();
        Check.end();
    }

    private static void leastSum() {
        Check.sentence("Of all ways to part it with LEGAL lines that with the least sum of DEMERITS is taken");
        Subject x = Subject.parted(".rm 10", "aa bb cc d eeeee ffffffffff");
        Check.same("not as much as fits", x.body(), "aa  bb  cc\nd    eeeee\nffffffffff\n");
        Check.same("its sum", x.demerits(), 101L * 101 + 2701L * 2701 + 1 + 5000);
        Subject y = Subject.parted(".rm 10", "aa bb cc dddd^ddd");
        Check.same("without a hyphen", y.demerits(), 101 * 101 + 1 + 5000);
        Subject z = Subject.parted(".rm 9", "aa bb c^cc dddddd");
        Check.same("with the whole word", z.demerits(), 1 + 1);
        Subject v = Subject.parted(".rm 10", "aaaaa bb^bbbbbbbb");
        Check.same("with a hyphen", v.body(), "aaaaa  bb-\nbbbbbbbb\n");
        Check.same("and its sum", v.demerits(), 101 * 101 + 3000 + 1 + 5000);
        Subject u = Subject.parted(".rm 10", ".na", "ab ab ab ab a a a a");
        Check.same("a line of KIND 1 behind one of KIND 2", u.body(), "ab ab ab\nab a a a\na\n");
        Check.same("costs less than one of KIND 0", u.demerits(), 101 * 101 + 30 * 30 + 1);
        Check.same("one way alone", Subject.parted(".rm 1", "a b c").demerits(), 3);
    }

    /** Eight lines or nine have this sum; of the nine the second line would be the shorter one. */
    private static void fewestLines() {
        Check.sentence("of these one with the fewest lines");
        Subject x = Subject.parted(".rm 23", "aaa b cc dd ee fff gg hh ii jj k lll m nnn oo ppp qqq r s t uuu v w",
                "xxx yyy zz a b cc dd ee f ggg h ii jjj kkk ll m n o p qq rrr ss t uuu vvv w x yyy",
                "zzz aa b ccc ddd eee f ggg hh ii");
        Check.same("the sum", x.demerits(), 207);
        Check.same("lines", x.count(13), 8);
        Check.same("the second line", x.line(1, 0), 23);
    }

    /** Not made full, so that the lines are seen as they are. */
    private static void tie(int room, String text, long sum, String lines) {
        Subject x = Subject.parted(".rm " + room, ".na", text);
        Check.same(text + ", lines", x.body().replace('\n', '|'), lines);
        Check.same(text + ", sum", x.demerits(), sum);
    }

    /** The comments tell the other ways with the same sum and as many lines. */
    private static void shorterFirstLine() {
        Check.sentence("of these that whose first line that differs is the shorter one (by where it ends).");
        // a a|abcde
        tie(8, "a a abcde", WORST + 1 + 5000, "a|a abcde|");
        // a abc a|ab ab|abcdef
        tie(9, "a abc a ab ab abcdef", 40988003, "a abc|a ab ab|abcdef|");
        // abc a|a a a|a a|abc
        tie(5, "abc a a a a a a abc", 651604, "abc a|a a|a a a|abc|");
        // a abc|abcd a-|bc a ab|ab a|abc
        tie(7, "a abc abcd a^bc a ab a^b a abc", 7955005, "a abc|abcd a-|bc a|ab ab a|abc|");
        // abcde ab|a|ab abcde and abcde ab|a ab|abcde: here the second line ends before that of the way taken
        tie(9, "abcde ab a ab abcde", 100035203, "abcde|ab a ab|abcde|");
        // abcd|a a-|b a|abc: its first line has the same LENGTH, and ends behind that of the way taken
        tie(4, "abc^d a a^b a abc", 23204, "abc-|d a|ab a|abc|");
    }
}
