/** JUSTIFY: which lines are made full, and which blanks grow. */
public final class FullLinesTest {
    public static void main(String[] args) {
        blanksGrow();
        whichLines();
        justifyOrNot();
        Check.end();
    }

    /** The first of two lines; the second is a word that fills ROOM. */
    private static String firstLine(int room, String words) {
        String all = Subject.parted(".rm " + room, words, "x".repeat(room)).body();
        return all.substring(0, all.indexOf('\n'));
    }

    private static void blanksGrow() {
        Check.sentence("the k-th of g blanks (from 1 on) becomes as many more as SLACK k / g is above SLACK (k - 1) / g"
                + " (both rounded down).");
        Check.same("0 of 3", firstLine(9, "aa b c dd"), "aa b c dd");
        Check.same("1 of 3", firstLine(10, "aa b c dd"), "aa b c  dd");
        Check.same("2 of 3", firstLine(11, "aa b c dd"), "aa b  c  dd");
        Check.same("3 of 3", firstLine(12, "aa b c dd"), "aa  b  c  dd");
        Check.same("4 of 3", firstLine(13, "aa b c dd"), "aa  b  c   dd");
        Check.same("5 of 3", firstLine(14, "aa b c dd"), "aa  b   c   dd");
        Check.same("1 of 1", firstLine(4, "a b"), "a  b");
        Check.same("9 of 1", firstLine(12, "a b"), "a" + " ".repeat(10) + "b");
        Check.same("77 of 1", firstLine(80, "a b"), "a" + " ".repeat(78) + "b");
        Check.same("5 of 4", firstLine(14, "a b c d e"), "a  b  c  d   e");
        Check.same("3 of 4", firstLine(12, "a b c d e"), "a b  c  d  e");
        Check.same("2 of 4", firstLine(11, "a b c d e"), "a b  c d  e");
    }

    private static void whichLines() {
        Check.sentence("all but the last one, if their SLACK is above 0 and they have blanks, are made full");
        Check.same("SLACK 0", firstLine(5, "a b c"), "a b c");
        Check.same("SLACK 1", firstLine(6, "a b c"), "a b  c");
        Check.same("no blanks, SLACK 0", firstLine(3, "abc"), "abc");
        Check.same("no blanks, SLACK 1", firstLine(4, "abc"), "abc");
        Check.same("too long", firstLine(2, "abc"), "abc");
        Check.same("the only one", Subject.parted(".rm 8", "a b c").body(), "a b c\n");
        Check.same("the last one", Subject.parted(".rm 8", "a b c dddd e").body(), "a  b   c\ndddd e\n");
        Check.same("the one before it", Subject.parted(".rm 6", "aaaaaa b c d eeeeee").body(),
                "aaaaaa\nb c  d\neeeeee\n");
        Check.same("with a -", Subject.parted(".rm 6", "a bb^cccccc").body(), "a  bb-\ncccccc\n");
        Check.same("a part of a word is no blank", Subject.parted(".rm 7", "a b^b c ddddddd").body(),
                "a bb  c\nddddddd\n");
    }

    private static void justifyOrNot() {
        Check.sentence("with JUSTIFY all but the last one");
        Check.same("not", Subject.parted(".rm 8", ".na", "a b c dddddddd").body(), "a b c\ndddddddd\n");
        Check.same("again", Subject.parted(".rm 8", ".na", ".ju", "a b c dddddddd").body(), "a  b   c\ndddddddd\n");
        Check.same("as it is at the BREAK", Subject.parted(".rm 8", ".na", "a b c dddddddd", ".ju").body(),
                "a  b   c\ndddddddd\n");
        Subject x = Subject.parted(".rm 8", ".na", "a b c dddddddd");
        Check.same("LENGTH and SLACK are the same", x.facts(0), "5 3 337 2 0 8");
    }
}
