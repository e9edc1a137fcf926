/** Promises 8 and 9, demerits and line, and how a BREAK parts a PARAGRAPH. */
public final class PartingTest {
    public static void main(String[] args) {
        nothingYet();
        wrongArguments();
        badness();
        overlong();
        hyphenPoints();
        hyphenDemerits();
        kinds();
        rooms();
        least();
        ties();
        madeFull();
        latestStays();
        Check.end();
    }

    private static PageFormatter parted(String... lines) {
        PageFormatter x = Check.after(lines);
        Check.enter(x, ".br");
        return x;
    }

    private static void nothingYet() {
        PageFormatter y = Check.after("", ".nf", "text", ".br");
        Check.same("demerits of one word", parted("word").demerits(), 1);
        Check.same("no PARAGRAPH", y.demerits(), PageFormatter.NONE);
        Check.same("no line", y.line(0, 0), PageFormatter.NONE);
        Check.same("no line, another what", y.line(0, 6), PageFormatter.NONE);
    }

    private static void wrongArguments() {
        PageFormatter x = parted("word");
        Check.same("line 1", x.line(1, 0), PageFormatter.NONE);
        Check.same("line -1", x.line(-1, 0), PageFormatter.NONE);
        Check.same("line far", x.line(Integer.MAX_VALUE, 0), PageFormatter.NONE);
        Check.same("line least", x.line(Integer.MIN_VALUE, 7), PageFormatter.NONE);
        Check.same("none stands before bad", x.line(1, 6), PageFormatter.NONE);
        Check.same("what 6", x.line(0, 6), PageFormatter.BAD);
        Check.same("what -1", x.line(0, -1), PageFormatter.BAD);
        Check.same("what far", x.line(0, Integer.MAX_VALUE), PageFormatter.BAD);
        Check.same("what least", x.line(0, Integer.MIN_VALUE), PageFormatter.BAD);
    }

    private static void badness() {
        Check.same("slack 2 of 2", Check.facts(parted(".rm 7", "a b c ddddd"), 0), "5 2 100 2 0 7");
        Check.same("slack 1 of 2", Check.facts(parted(".rm 6", "a b c ddddd"), 0), "5 1 12 2 0 6");
        Check.same("slack 0", Check.facts(parted(".rm 5", "a b c ddddd"), 0), "5 0 0 2 0 5");
        Check.same("no blanks", Check.facts(parted(".rm 5", "abc ddddd"), 0), "3 2 10000 0 0 5");
        Check.same("no blanks, no slack", Check.facts(parted(".rm 5", "abcde fgh"), 0), "5 0 0 0 0 5");
        Check.same("above 10000", Check.facts(parted(".rm 8", "a b cccccccc"), 0), "3 5 10000 1 0 8");
        Check.same("just below", Check.facts(parted(".rm 7", "a b ccccccc"), 0), "3 4 6400 1 0 7");
        String wide = "x".repeat(60);
        Check.same("rounded down", Check.facts(parted(".rm 60", "aaaaaaa b c d e f g h i j k l " + wide), 0),
                "29 31 2238 11 0 60");
        Check.same("more than 20 g", Check.facts(parted(".rm 24", "a b " + wide), 0), "3 21 10000 1 0 24");
        Check.same("the last line", Check.facts(parted(".rm 60", "a b"), 0), "3 57 0 1 0 60");
        Check.same("demerits", parted(".rm 6", "a b c ddddd").demerits(), 13 * 13 + 1);
    }

    private static void overlong() {
        PageFormatter x = parted(".rm 4", "abcdef gh");
        Check.same("first", Check.facts(x, 0), "6 0 10000 0 0 4");
        Check.same("last", Check.facts(x, 1), "2 2 0 0 0 4");
        Check.same("demerits", x.demerits(), 10001L * 10001 + 5000 + 1);
        PageFormatter y = parted(".rm 4", "abcdef");
        Check.same("the last one, too", Check.facts(y, 0), "6 0 10000 0 0 4");
        PageFormatter z = parted(".rm 1", "ab^cd");
        Check.same("a piece", Check.facts(z, 0), "3 0 10000 0 1 1");
        Check.same("the piece behind", Check.facts(z, 1), "2 0 10000 0 0 1");
        Check.same("their demerits", z.demerits(), 2 * 10001L * 10001 + 3000);
        PageFormatter w = Check.after(".rm 80");
        Check.type(w, "x".repeat(100));
        w.enter();
        Check.enter(w, ".br");
        Check.same("a hundred", Check.facts(w, 0), "100 0 10000 0 0 80");
    }

    private static void hyphenPoints() {
        PageFormatter x = parted(".rm 3", "^ab^^cd^");
        Check.same("one point", x.count(13), 2);
        Check.same("bytes", Check.body(x), "ab-\ncd\n");
        Check.same("ends with it", Check.facts(x, 0), "3 0 0 0 1 3");
        Check.same("does not", Check.facts(x, 1), "2 1 0 0 0 3");
        PageFormatter y = parted(".rm 3", "ab- c");
        Check.same("a - of the word is none", Check.facts(y, 0), "3 0 0 0 0 3");
        PageFormatter z = parted("ab^cd ^ef");
        Check.same("not taken", Check.body(z), "abcd ef\n");
        Check.same("LENGTH without", Check.facts(z, 0), "7 33 0 1 0 40");
        PageFormatter v = parted(".rm 6", "a bc^d efgh i");
        Check.same("no line ends there", Check.body(v), "a  bcd\nefgh i\n");
        PageFormatter u = parted(".rm 4", "a b^cd e");
        Check.same("blanks behind it", Check.facts(u, 1), "4 0 0 1 0 4");
    }

    private static void hyphenDemerits() {
        PageFormatter x = parted(".rm 3", "ab^cd");
        Check.same("one", x.demerits(), 1 + 3000 + 1);
        PageFormatter y = parted(".rm 3", "ab^cd^ef");
        Check.same("two", y.demerits(), 1 + 3000 + 1 + 3000 + 10000 + 1);
        PageFormatter z = parted(".rm 3", "ab^cde fg^hi");
        Check.same("apart", z.demerits(), 1 + 3000 + 1 + 1 + 3000 + 1);
    }

    private static void kinds() {
        PageFormatter x = parted(".rm 5", "abcd efghi j");
        Check.same("2 then 0", x.demerits(), 10001L * 10001 + 1 + 5000 + 1);
        PageFormatter y = parted(".rm 5", "abcde fghi jklmn");
        Check.same("0, 2, 0", y.demerits(), 1 + 10001L * 10001 + 5000 + 1 + 5000);
        PageFormatter z = parted(".rm 7", "aaaa bbbb cccc");
        Check.same("2, 2, 0", z.demerits(), 2 * 10001L * 10001 + 5000 + 1);
        Check.same("12 beside 10000", parted(".rm 6", "a b c ddddddd").demerits(), 13 * 13 + 10001L * 10001 + 5000);
        PageFormatter v = parted(".rm 13", "aa bb cc dd eeeeeeeeeeeeee");
        Check.same("29", Check.facts(v, 0), "11 2 29 3 0 13");
        Check.same("29 beside 10000", v.demerits(), 30 * 30 + 10001L * 10001);
        Check.same("29 beside 0", parted(".rm 13", "aa bb cc dd eeeeeeeeeeeee").demerits(), 30 * 30 + 1);
        Check.same("100 beside 10000", parted(".rm 10", "aa bb cc eeeeeeeeeee").demerits(), 101 * 101 + 10001L * 10001);
        Check.same("100 beside 0", parted(".rm 10", "aa bb cc eeeeeeeeee").demerits(), 101 * 101 + 1 + 5000);
    }

    private static void rooms() {
        PageFormatter x = parted(".rm 10", ".in 2", ".ti 5", "aa bb cc dd ee ff");
        Check.same("first", x.line(0, 5), 5);
        Check.same("second", x.line(1, 5), 8);
        Check.same("bytes", Check.body(x), "     aa bb\n  cc dd ee\n  ff\n");
        PageFormatter y = Check.after("aa bb", ".in 30", ".rm 35", ".br");
        Check.same("as they are at the BREAK", Check.facts(y, 0), "5 0 0 1 0 5");
    }

    private static void least() {
        PageFormatter x = parted(".rm 10", "aa bb cc d eeeee ffffffffff");
        Check.same("not as much as fits", Check.body(x), "aa  bb  cc\nd    eeeee\nffffffffff\n");
        Check.same("its demerits", x.demerits(), 101L * 101 + 2701L * 2701 + 1 + 5000);
        PageFormatter y = parted(".rm 10", "aa bb cc dddd^ddd");
        Check.same("without a hyphen", y.demerits(), 101 * 101 + 1 + 5000);
        PageFormatter z = parted(".rm 9", "aa bb c^cc dddddd");
        Check.same("with the whole word", z.demerits(), 1 + 1);
        PageFormatter v = parted(".rm 10", "aaaaa bb^bbbbbbbb");
        Check.same("with a hyphen", Check.body(v), "aaaaa  bb-\nbbbbbbbb\n");
        Check.same("and its demerits", v.demerits(), 101 * 101 + 3000 + 1 + 5000);
    }

    private static void ties() {
        PageFormatter x = parted(".rm 14", "ab ab^abcd abcd^abc");
        Check.same("the shorter first line", Check.body(x), "ab\nababcd abcdabc\n");
        Check.same("either way", x.demerits(), 10001L * 10001 + 1 + 5000);
        PageFormatter y = parted(".rm 7", "ab^abc abcde abc^a^abcde");
        Check.same("the shorter third line", Check.body(y), "ababc\nabcde\nabc-\naabcde\n");
        PageFormatter z = parted(".rm 23", "aaa b cc dd ee fff gg hh ii jj k lll m nnn oo ppp qqq r s t uuu v w",
                "xxx yyy zz a b cc dd ee f ggg h ii jjj kkk ll m n o p qq rrr ss t uuu vvv w x yyy",
                "zzz aa b ccc ddd eee f ggg hh ii");
        Check.same("eight lines or nine", z.demerits(), 207);
        Check.same("the fewest", z.count(13), 8);
    }

    private static void madeFull() {
        Check.same("slack to the later ones", Check.body(parted(".rm 10", "aa b c dd eeeeeeeeee")),
                "aa b c  dd\neeeeeeeeee\n");
        Check.same("two of three", Check.body(parted(".rm 11", "aa b c dd eeeeeeeeeee")),
                "aa b  c  dd\neeeeeeeeeee\n");
        Check.same("more than the blanks", Check.body(parted(".rm 8", "a b c dddddddd")), "a  b   c\ndddddddd\n");
        Check.same("no JUSTIFY", Check.body(parted(".rm 8", ".na", "a b c dddddddd")), "a b c\ndddddddd\n");
        Check.same("JUSTIFY at the BREAK", Check.body(parted(".rm 8", ".na", "a b c dddddddd", ".ju")),
                "a  b   c\ndddddddd\n");
        Check.same("no blanks", Check.body(parted(".rm 8", "abc dddddddd")), "abc\ndddddddd\n");
        Check.same("not the last", Check.body(parted(".rm 8", "a b c")), "a b c\n");
    }

    private static void latestStays() {
        PageFormatter x = parted(".rm 5", "aa bb cc");
        Check.enterAll(x, "dd ee ff", "gg^hh");
        Check.same("while another is gathered", Check.facts(x, 0) + " " + x.count(13), "5 0 0 1 0 5 2");
        Check.enterAll(x, ".br", ".br", "", ".nf", "text");
        Check.same("the latest one", x.count(13) * 10 + x.line(1, 3), 31);
    }
}
