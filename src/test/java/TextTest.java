/** Promise 3, enter: LINES of TEXT. */
public final class TextTest {
    /** Forty words in 79 bytes. */
    private static final String FORTY = "a" + " a".repeat(39);

    public static void main(String[] args) {
        beginsWithABlankOrIsEmpty();
        thisIndentGrows();
        allBlanksOrEmpty();
        blanksComeBeforeTheOthers();
        centredCountsDown();
        centredLines();
        centredWithoutCaretsAndBlanks();
        notFilled();
        words();
        before81();
        underlinedCountsDown();
        underlinedBytes();
        underlinedLengths();
        answers();
        Check.end();
    }

    private static int counted(int what, String... lines) {
        return Subject.after(lines).count(what);
    }

    private static String bodyAfter(String... lines) {
        return Subject.after(lines).body();
    }

    private static void beginsWithABlankOrIsEmpty() {
        Check.sentence("If it begins with a blank, or is empty: a BREAK");
        Check.same("empty", bodyAfter("one", "", ".br"), "one\n\n");
        Check.same("a blank", bodyAfter("one", " ", ".br"), "one\n\n");
        Check.same("a blank and a word", bodyAfter("one", " two", ".br"), "one\n two\n");
        Check.same("a byte above the blank", bodyAfter("one", "!", ".br"), "one !\n");
        Check.same("a blank behind a byte ^", bodyAfter("one", "^ two", ".br"), "one two\n");
        Check.same("a blank at the end", bodyAfter("one", "two ", ".br"), "one two\n");
    }

    private static void thisIndentGrows() {
        Check.sentence("THIS INDENT grows by how many blanks it begins with (RIGHT less 1 at most), and these go.");
        for (int blanks = 1; blanks <= 12; blanks++) {
            String line = " ".repeat(blanks) + "x";
            Check.same(blanks + " blanks", counted(6, ".rm 10", line), Math.min(9, blanks));
            Check.same(blanks + " behind 4", counted(6, ".rm 10", ".ti 4", line), Math.min(9, 4 + blanks));
            Check.same(blanks + " not filled", bodyAfter(".rm 10", ".in 2", ".nf", line),
                    " ".repeat(Math.min(9, 2 + blanks)) + "x\n");
        }
        Check.same("99 blanks", counted(6, ".rm 80", " ".repeat(99) + "x"), 79);
        Check.same("RIGHT 1", counted(6, ".rm 1", "  x"), 0);
        Check.same("from INDENT, behind the BREAK", bodyAfter(".in 2", ".ti 5", "one", "   two", ".br"),
                "     one\n     two\n");
        Check.same("bytes ^ alone behind them", counted(6, "  ^^"), 2);
    }

    private static void allBlanksOrEmpty() {
        Check.sentence("if it is all blanks, or empty: an empty line is PUT.");
        String[] lines = {"", " ", "  ", " ".repeat(99), " ".repeat(100)};
        for (String line : lines) {
            Subject x = Subject.after(".in 3", ".ti 7", line);
            Check.same(line.length() + " blanks", x.body(), "\n");
            Check.same("THIS INDENT is INDENT then", x.count(6), 3);
            Check.same("lines PUT", x.count(15), 1);
        }
        Check.same("with a byte ^ it is neither", Subject.after(" ^").count(15), 0);
    }

    private static void blanksComeBeforeTheOthers() {
        Check.sentence("Then the first of these: if it is all blanks, or empty");
        Check.same("CENTRED stays", counted(8, ".ce 2", "", " "), 2);
        Check.same("an empty line, not a centred one", bodyAfter(".ce 2", "", "  "), "\n\n");
        Check.same("not filled", bodyAfter(".nf", ".in 2", "", "  "), "\n\n");
        Check.sentence("Then the first of these: .. CENTRED is above 0: .. Not FILL: .. Else its WORDS");
        Check.same("CENTRED before not FILL", bodyAfter(".nf", ".rm 11", ".ce", "abc  ", "abc  "), "    abc\nabc  \n");
        Check.same("CENTRED before WORDS", bodyAfter(".rm 11", ".ce", "a  b"), "    a  b\n");
    }

    private static void centredCountsDown() {
        Check.sentence("CENTRED is above 0: it becomes one less");
        Check.same("0", bodyAfter(".rm 11", ".ce 0", "abc", ".br"), "abc\n");
        Check.same("1", bodyAfter(".rm 11", ".ce 1", "abc", "abc", ".br"), "    abc\nabc\n");
        Check.same("2", bodyAfter(".rm 11", ".ce 2", "abc", "abc", "abc", ".br"), "    abc\n    abc\nabc\n");
        for (int n = 0; n <= 2; n++) {
            Check.same("one less than " + n, counted(8, ".ce " + n, "x"), Math.max(0, n - 1));
        }
        Check.same("one less than 99", counted(8, ".ce 99", "x"), 98);
        Check.same("bytes ^ alone count", counted(8, ".ce 2", "^"), 1);
        Check.same("a COMMAND does not", counted(8, ".ce 2", ".xx", ".ls"), 2);
    }

    private static void centredLines() {
        Check.sentence("(RIGHT and THIS INDENT and 1, less its length) / 2, 0 at least (rounded down).");
        for (int length = 1; length <= 14; length++) {
            String line = "x".repeat(length);
            Check.same("length " + length, bodyAfter(".rm 9", ".ce", line),
                    " ".repeat(length >= 10 ? 0 : (10 - length) / 2) + line + "\n");
            Check.same("length " + length + ", INDENT 3", bodyAfter(".rm 9", ".in 3", ".ce", line),
                    " ".repeat(length >= 13 ? 0 : (13 - length) / 2) + line + "\n");
        }
        Check.same("100 bytes", bodyAfter(".ce", "x".repeat(100)), "x".repeat(100) + "\n");
        Check.same("the blanks before", bodyAfter(".rm 9", ".ce", "   abcd"), "    abcd\n");
        Check.same("RIGHT less 1 of these at most", bodyAfter(".rm 9", ".ce", " ".repeat(20) + "a"), "        a\n");
        Check.same("THIS INDENT is INDENT then", counted(6, ".in 2", ".ti 5", ".ce", "x"), 2);
    }

    private static void centredWithoutCaretsAndBlanks() {
        Check.sentence("the LINE, without bytes ^ and then without blanks at its end, is PUT");
        Check.same("blanks at its end", bodyAfter(".rm 11", ".ce", "abcd  "), "    abcd\n");
        Check.same("bytes ^", bodyAfter(".rm 11", ".ce", "^a^b^^cd^"), "    abcd\n");
        Check.same("blanks before bytes ^", bodyAfter(".rm 11", ".ce", "abcd ^ ^"), "    abcd\n");
        Check.same("a byte ^ alone is an empty line", bodyAfter(".rm 11", ".ce", "^"), "\n");
        Check.same("blanks between them too", bodyAfter(".rm 11", ".ce", "^ ^ "), "\n");
        Check.same("blanks before it stay", bodyAfter(".rm 11", ".ce", "^  ab"), "      ab\n");
    }

    private static void notFilled() {
        Check.sentence("Not FILL: it is PUT, without bytes ^.");
        Check.same("blanks stay", bodyAfter(".nf", "a  b  ", "c"), "a  b  \nc\n");
        Check.same("bytes ^", bodyAfter(".nf", "^a^^b^"), "ab\n");
        Check.same("a byte ^ alone is an empty line", bodyAfter(".nf", ".in 3", "^"), "\n");
        Check.same("a blank behind it is none", bodyAfter(".nf", ".in 3", "^ "), "    \n");
        Check.same("100 bytes ^", bodyAfter(".nf", ".in 3", "^".repeat(100)), "\n");
        Check.same("longer than RIGHT", bodyAfter(".nf", ".rm 3", "abcdefg"), "abcdefg\n");
        Check.same("no PARAGRAPH", Subject.after(".nf", "a b").count(0), 0);
    }

    private static void words() {
        Check.sentence("Else its WORDS, parted by blanks, are words of the PARAGRAPH");
        Check.same("one", counted(0, "one"), 1);
        Check.same("two", counted(0, "one two"), 2);
        Check.same("many blanks", counted(0, "  one   two   "), 2);
        Check.same("fifty", counted(0, "a ".repeat(50)), 50);
        Check.same("100 bytes", counted(0, "a".repeat(100)), 1);
        Check.same("of more LINES", bodyAfter("one  two", "three   ", "four", ".br"), "one two three four\n");
        Check.same("a point inside", counted(0, "a .br .xx"), 3);
        Check.same("none left behind a BREAK", counted(0, "one two", ".br"), 0);
    }

    private static void before81() {
        Check.sentence("before one that would be the 81st a BREAK.");
        Subject x = Subject.after(".rm 80", FORTY);
        Check.same("39 more", x.enter("a " + "b ".repeat(38)), 0);
        Check.same("are 79", x.count(0), 79);
        Check.same("the 80th", x.enter("c"), 0);
        Check.same("are 80", x.count(0), 80);
        Check.same("one without other bytes is none", x.enter("^ ^^"), 0);
        Check.same("still 80", x.count(0), 80);
        Check.same("the 81st", x.enter("d"), 2);
        Check.same("is gathered", x.count(0), 1);
        x.enter(".br");
        Check.same("alone", x.line(0, 0), 1);
        Subject y = Subject.after(".rm 80", ".in 2", ".ti 5", FORTY);
        Check.same("the 80th and 81st in one LINE", y.enter(FORTY + " b c"), 3);
        Check.same("two are gathered", y.count(0), 2);
        Check.same("THIS INDENT is INDENT then", y.count(6), 2);
        y.enterAll(FORTY, FORTY.substring(4));
        Check.same("80 again", y.count(0), 80);
        Check.same("a BREAK behind 80", y.enter(".br"), 3);
        Check.same("as many lines", y.count(13), 3);
    }

    private static void underlinedCountsDown() {
        Check.sentence("While UNDERLINED is above 0 a LINE of TEXT (that is not all blanks) is underlined,"
                + " and it becomes one less");
        Check.same("0", bodyAfter(".nf", ".ul 0", "a"), "a\n");
        Check.same("1", bodyAfter(".nf", ".ul 1", "a", "b"), "_\ba\nb\n");
        Check.same("2", bodyAfter(".nf", ".ul 2", "a", "b", "c"), "_\ba\n_\bb\nc\n");
        for (int n = 0; n <= 2; n++) {
            Check.same("one less than " + n, counted(9, ".ul " + n, "x"), Math.max(0, n - 1));
        }
        Check.same("one less than 99", counted(9, ".ul 99", "x"), 98);
        Check.same("all blanks", counted(9, ".ul 2", " ", "   "), 2);
        Check.same("empty", counted(9, ".ul 2", ""), 2);
        Check.same("a byte ^ alone", counted(9, ".ul 2", "^"), 1);
        Check.same("blanks and a byte ^", counted(9, ".ul 2", "  ^"), 1);
        Check.same("a COMMAND", counted(9, ".ul 2", ".xx", ".ls"), 2);
        Check.same("centred", bodyAfter(".rm 3", ".ul", ".ce 2", "a", "b"), " _\ba\n b\n");
        Check.same("by LINES, not by lines", bodyAfter(".ul", "ab", "cd", ".br"), "_\ba_\bb cd\n");
        Check.same("when the LINE comes in, not when it is PUT", bodyAfter("ab", ".ul", "cd", ".ul 0", ".br"),
                "ab _\bc_\bd\n");
    }

    private static void underlinedBytes() {
        Check.sentence("all its bytes but blanks are PUT as _, 8, and the byte");
        Check.same("the first and the last", bodyAfter(".nf", ".ul", "! ~"), "_\b! _\b~\n");
        Check.same("_ and -", bodyAfter(".nf", ".ul", "_-"), "_\b__\b-\n");
        Check.same("no bytes ^", bodyAfter(".nf", ".ul", "^a^b^"), "_\ba_\bb\n");
        Check.same("blanks before and behind", bodyAfter(".nf", ".ul", "  a "), "  _\ba \n");
        Check.same("100 bytes", bodyAfter(".nf", ".ul", "x".repeat(100)), "_\bx".repeat(100) + "\n");
        Check.sentence("a - of a hyphen point is put alone");
        Check.same("of a hyphen point", bodyAfter(".rm 3", ".ul", "ab^cd", ".br"), "_\ba_\bb-\n_\bc_\bd\n");
        Check.same("of the word", bodyAfter(".rm 3", ".ul", "ab- cd", ".br"), "_\ba_\bb_\b-\n_\bc_\bd\n");
    }

    private static void underlinedLengths() {
        Check.sentence("(its length stays what it is;");
        Check.same("LENGTH", Subject.parted(".rm 5", ".ul", "abcde").facts(0), "5 0 0 0 0 5");
        Check.same("centred", bodyAfter(".rm 11", ".ul", ".ce", "abc"), "    _\ba_\bb_\bc\n");
        Check.same("made full", Subject.parted(".rm 6", ".ul", "ab cd efgh").body(),
                "_\ba_\bb  _\bc_\bd\n_\be_\bf_\bg_\bh\n");
    }

    private static void answers() {
        Check.sentence("The LINE comes in, and is empty then: how many lines were PUT by it.");
        Subject x = Subject.after(".rm 5");
        Check.same("gathered", x.enter("aa bb cc"), 0);
        Check.same("empty then", x.count(16), 0);
        Check.same("a BREAK of two lines", x.enter(".br"), 2);
        Check.same("of none", x.enter(".br"), 0);
        Check.same("a BREAK and an empty line", x.enterAll("dd", ""), 2);
        Check.same("no lines by SPACE", x.enter(".sp 3"), 0);
        Check.same("the LINE does not come in twice", x.enter(), 1);
        Check.same("together", x.count(15), 5);
    }
}
