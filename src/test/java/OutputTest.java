/** Promises 5 to 7, wipe, length and at, and how much THE OUTPUT holds. */
public final class OutputTest {
    private static final int MOST = 20000;

    public static void main(String[] args) {
        bytes();
        noneSuch();
        wiped();
        fullInALine();
        fullInEveryPart();
        moreIsLost();
        roomAgain();
        Check.end();
    }

    private static void bytes() {
        Check.sentence("Byte i of it; NONE if there is none such.");
        Subject x = Subject.parted(".he h", ".ul", "ab");
        Check.same("length()", x.length(), 11);
        String due = "\nh\n\n_\ba_\bb\n";
        for (int i = 0; i < due.length(); i++) {
            Check.same("at(" + i + ")", x.at(i), due.charAt(i));
        }
    }

    private static void noneSuch() {
        Check.sentence("NONE if there is none such.");
        Subject x = Subject.parted("ab");
        int[] none = {6, 7, MOST - 1, MOST, MOST + 1, -1, Integer.MAX_VALUE, Integer.MIN_VALUE};
        for (int i : none) {
            Check.same("at(" + i + ")", x.at(i), PageFormatter.NONE);
        }
        Check.same("the last", x.at(5), '\n');
        Check.same("the first", x.at(0), '\n');
        Check.same("in no bytes", new Subject().at(0), PageFormatter.NONE);
    }

    private static void wiped() {
        Check.sentence("THE OUTPUT is empty: how many bytes it had.");
        Subject x = Subject.parted(".he h", "ab");
        x.type("cd");
        Check.same("wipe()", x.wipe(), 7);
        Check.same("length() then", x.length(), 0);
        Check.same("at(0) then", x.at(0), PageFormatter.NONE);
        Check.same("wipe() again", x.wipe(), 0);
        Check.same("the LINE stays", x.count(16), 2);
        Check.same("the page stays", x.count(1) * 10 + x.count(2), 51);
        Check.same("the PARAGRAPH stays", x.demerits(), 1);
        x.enter();
        x.enter(".br");
        Check.same("from the beginning", x.output(), "cd\n");
    }

    /**
     * An empty line on each page, between a HEAD and a FOOT of 97 times the
     * page's number, fills it in few calls. Then lines bring it to the size.
     */
    private static Subject filledTo(int size) {
        Subject x = Subject.after(".he" + "#".repeat(97), ".fo" + "#".repeat(97), ".pl 8", ".ls 9", ".bp 100");
        int page = 2 * (97 * 3 + 3) + 2;
        while (x.length() + page <= size - 200) {
            x.enter();
        }
        x.enterAll(".he", ".fo", ".pl 99", ".ls 1", ".nf");
        while (size - x.length() > 200) {
            x.enter("x".repeat(99));
        }
        int left = size - x.length();
        if (left > 100) {
            x.enter("x".repeat(left - 101));
            x.enter("x".repeat(99));
        } else if (left > 0) {
            x.enter("x".repeat(left - 1));
        }
        Check.same("bytes before", x.length(), size);
        return x;
    }

    private static void fullInALine() {
        Check.sentence("THE OUTPUT is bytes, at most 20000 (what is more is lost).");
        Subject x = filledTo(MOST - 3);
        x.enter("y");
        Check.same("19999", x.length(), MOST - 1);
        x.enter("");
        Check.same("20000", x.length(), MOST);
        Check.same("its last byte", x.at(MOST - 1), '\n');
        Check.same("none behind it", x.at(MOST), PageFormatter.NONE);
        x.enter("z");
        Check.same("no more", x.length(), MOST);
        Check.same("the last byte stays", x.at(MOST - 1), '\n');
        Subject y = filledTo(MOST - 3);
        y.enter("abcd");
        Check.same("a line of five", y.length(), MOST);
        Check.same("is cut", y.at(MOST - 1), 'c');
    }

    private static void fullInEveryPart() {
        Check.sentence("THE OUTPUT is bytes, at most 20000 (what is more is lost).");
        Subject x = filledTo(MOST - 1);
        x.enterAll(".ul", "a");
        Check.same("underlined", x.length() * 1000 + x.at(MOST - 1), MOST * 1000 + '_');
        Subject y = filledTo(MOST - 2);
        y.enterAll(".in 5", "a");
        Check.same("indented", y.length() * 1000 + y.at(MOST - 1), MOST * 1000 + ' ');
        Subject z = filledTo(MOST - 1);
        z.enter(".sp 3");
        Check.same("SPACE", z.length() * 1000 + z.at(MOST - 1), MOST * 1000 + '\n');
        Check.same("its LINE NUMBER", z.count(1), filledTo(MOST - 1).count(1) + 3);
        Subject v = filledTo(MOST - 2);
        v.enterAll(".fi", ".rm 4", "ab^cd", ".br");
        Check.same("a PARAGRAPH", v.length() * 1000 + v.at(MOST - 1), MOST * 1000 + 'b');
        Subject u = filledTo(MOST - 2);
        u.enterAll(".pl 8", ".he #", ".bp 123", "");
        Check.same("a HEAD", u.length() * 1000 + u.at(MOST - 1), MOST * 1000 + '1');
        Subject w = filledTo(MOST - 3);
        w.enterAll(".fo #", ".pl " + (w.count(1) + 3), "");
        Check.same("a FOOT", w.length() * 1000 + w.at(MOST - 1), MOST * 1000 + '1');
    }

    private static void moreIsLost() {
        Check.sentence("(what is more is lost).");
        Subject x = filledTo(MOST);
        int lines = x.count(15);
        int number = x.count(1);
        Check.same("the line is PUT all the same", x.enter("abc"), 1);
        Check.same("it is counted", x.count(15), lines + 1);
        Check.same("LINE NUMBER goes on", x.count(1), number + 1);
        x.enterAll(".bp 50", "", ".fi", "one two", ".br");
        Check.same("so do THE PAGE and THE NEXT PAGE", x.count(2) * 100 + x.count(3), 5051);
        Check.same("a PARAGRAPH is parted", x.facts(0), "7 33 0 1 0 40");
        x.enter("word");
        Check.same("finish()", x.finish(), 1);
        Check.same("length()", x.length(), MOST);
        Check.same("the last byte", x.at(MOST - 1), '\n');
    }

    private static void roomAgain() {
        Check.sentence("THE OUTPUT is empty: how many bytes it had.");
        Subject x = filledTo(MOST);
        x.enter("lost");
        Check.same("wipe()", x.wipe(), MOST);
        x.enter("kept");
        Check.same("from the beginning", x.output(), "kept\n");
    }
}
