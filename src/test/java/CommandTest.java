/** Promise 3, enter: what a COMMAND is, its name, its REST and its NUMBER. */
public final class CommandTest {
    public static void main(String[] args) {
        aPointBegins();
        names();
        otherNames();
        rests();
        numbers();
        fourDigits();
        withoutADigit();
        breaks();
        switches();
        Check.end();
    }

    private static int counted(int what, String... lines) {
        return Subject.after(lines).count(what);
    }

    private static void aPointBegins() {
        Check.sentence("One that begins with a point is a COMMAND");
        Check.same("a point", counted(14, ".xx"), 1);
        String[] texts = {"-xx", "/xx", " .xx", "^.xx", "x.xx"};
        for (String text : texts) {
            Check.same("[" + text + "] passed over", counted(14, text), 0);
            Check.same("[" + text + "] words", counted(0, text), 1);
        }
        Subject x = new Subject();
        x.type(0x78782E01L, 4);
        x.enter();
        Check.same("behind a byte that is not taken", x.count(14), 1);
        Check.same("an empty LINE is none", Subject.after(".xx").enter(), 1);
    }

    private static void names() {
        Check.sentence("the two bytes behind the point are its name (fewer: none of these)");
        String[] none = {".", ".b", ".Br", ".bR", ". br", ".aq", ".bq", ".bs", ".cr", ".rb", "..br"};
        for (String line : none) {
            Subject x = Subject.after(".br", "word", line);
            Check.same("[" + line + "] passed over", x.count(14), 1);
            Check.same("[" + line + "] words", x.count(0), 1);
        }
        String[] breaking = {".br", ".br ", ".brr", ".br.b", ".br 5"};
        for (String line : breaking) {
            Subject x = Subject.after("word", line);
            Check.same("[" + line + "] passed over", x.count(14), 0);
            Check.same("[" + line + "] lines", x.count(13), 1);
        }
        Check.same("all names", counted(14, ".br", ".fi", ".nf", ".ju", ".na", ".ls", ".in", ".ti", ".rm", ".ce",
                ".ul", ".sp", ".bp", ".pl", ".he", ".fo"), 0);
    }

    private static void otherNames() {
        Check.sentence("Other names: the LINE is passed over, and counted.");
        Subject x = Subject.after(".ti 3", ".ce 2", ".ul 2", ".ti 3");
        Check.same("lines PUT", x.enter(".xx 5"), 0);
        Check.same("counted", x.count(14), 1);
        Check.same("it is no TEXT", x.count(6) * 100 + x.count(8) * 10 + x.count(9), 322);
        x.enterAll(".", ".b");
        Check.same("counted then", x.count(14), 3);
        Check.same("the LINE is empty then", x.count(16), 0);
    }

    private static String head(String... lines) {
        Subject x = Subject.after(lines);
        x.enter(".sp 0");
        return x.output();
    }

    private static void rests() {
        Check.sentence("behind these, blanks passed over, is its REST (up to the LINE'S end)");
        Check.same("no blanks", head(".hea"), "\na\n\n");
        Check.same("one blank", head(".he a"), "\na\n\n");
        Check.same("many blanks", head(".he" + " ".repeat(96) + "a"), "\na\n\n");
        Check.same("nothing", head(".he a", ".he"), "\n\n\n");
        Check.same("blanks alone", head(".he a", ".he    "), "\n\n\n");
        Check.same("97 blanks alone", head(".he a", ".he" + " ".repeat(97)), "\n\n\n");
        Check.same("blanks inside and at the end", head(".he  a  b  "), "\na  b  \n\n");
        Check.same("bytes ^ and points", head(".he ^.^"), "\n^.^\n\n");
        Check.same("96 bytes", head(".he " + "h".repeat(96)), "\n" + "h".repeat(96) + "\n\n");
        Check.same("97 bytes", head(".he" + "h".repeat(97)), "\n" + "h".repeat(97) + "\n\n");
        Check.same("less than before", head(".he abcdef", ".he gh"), "\ngh\n\n");
    }

    /** PAGE LENGTH shows a NUMBER best: its default is 24, and it is 50 before. */
    private static int pageLength(String rest) {
        return counted(10, ".pl 50", ".pl " + rest);
    }

    private static void numbers() {
        Check.sentence("A NUMBER is what the REST begins with: perhaps + or -, then digits");
        for (int digit = 0; digit <= 9; digit++) {
            Check.same("digit " + digit, pageLength("3" + digit), 30 + digit);
        }
        Check.same("9 alone", pageLength("9"), 9);
        Check.same("0 alone is a NUMBER", pageLength("0"), 8);
        Check.same("+", pageLength("+9"), 59);
        Check.same("-", pageLength("-9"), 41);
        Check.same("+0", pageLength("+0"), 50);
        Check.same("-0", pageLength("-0"), 50);
        String[] before = {"/", ":", ",", "*", ".", "x", "(", "#"};
        for (String b : before) {
            Check.same("behind " + b, pageLength(b + "9"), 24);
        }
        String[] behind = {"/9", ":9", " 9", "+9", "-9", "x9", "."};
        for (String b : behind) {
            Check.same("before " + b, pageLength("33" + b), 33);
        }
        Check.same("right behind the name", counted(10, ".pl33"), 33);
        Check.same("a sign right behind the name", counted(10, ".pl+3"), 27);
    }

    private static void fourDigits() {
        Check.sentence("then digits (at most 4 count, further ones are passed over)");
        Check.same("3 digits", counted(3, ".bp 123"), 123);
        Check.same("4 digits", counted(3, ".bp 0123"), 123);
        Check.same("5 digits", counted(3, ".bp 01234"), 123);
        Check.same("6 digits", counted(3, ".bp 001234"), 12);
        Check.same("4 digits are many", counted(3, ".bp 1000"), 999);
        Check.same("94 digits", counted(3, ".bp0007" + "9".repeat(93)), 7);
        Check.same("+ and 3", counted(3, ".bp 100", ".bp +123"), 223);
        Check.same("+ and 4", counted(3, ".bp 100", ".bp +0123"), 223);
        Check.same("+ and 5", counted(3, ".bp 100", ".bp +01234"), 223);
        Check.same("- and 4", counted(3, ".bp 100", ".bp -0012"), 88);
        Check.same("- and 5", counted(3, ".bp 100", ".bp -00123"), 88);
        Check.same("zeros count", counted(3, ".bp 100", ".bp 00005"), 1);
    }

    private static void withoutADigit() {
        Check.sentence("without a digit there is none");
        String[] none = {"", "+", "-", "+ 9", "- 9", "++9", "+-9", "-+9", "x", "+x9", "      "};
        for (String rest : none) {
            Check.same("[" + rest + "]", pageLength(rest), 24);
        }
        Check.same("nor one of the LINE before", counted(10, ".pl 51", ".pl 52", ".pl"), 24);
    }

    private static void breaks() {
        Check.sentence("A BREAK parts the PARAGRAPH'S words into lines, if there are some");
        String[] breaking = {".br", ".fi", ".nf", ".ti", ".ce", ".ce 0", ".sp", ".sp 0", "", " ", " x"};
        for (String line : breaking) {
            Subject x = Subject.after("word");
            x.enter(line);
            Check.same("[" + line + "] parts", x.count(13), 1);
            Check.same("[" + line + "] when there are none", Subject.after(line).count(13), 0);
        }
        String[] others = {".ju", ".na", ".ls 2", ".in 2", ".rm 50", ".ul", ".pl 30", ".he h", ".fo f", ".zz", "x"};
        for (String line : others) {
            Subject x = Subject.after(".sp 0", "word");
            Check.same("[" + line + "] puts", x.enter(line), 0);
            Check.same("[" + line + "] parts", x.count(13), 0);
        }
    }

    private static void switches() {
        Check.sentence("fi, nf: a BREAK, then FILL or not (at first FILL).");
        Check.same("nf", counted(11, ".nf"), 0);
        Check.same("nf twice", counted(11, ".nf", ".nf"), 0);
        Check.same("fi", counted(11, ".nf", ".fi"), 1);
        Check.same("fi twice", counted(11, ".fi", ".fi"), 1);
        Check.sentence("ju, na: JUSTIFY or not (at first it does).");
        Check.same("na", counted(12, ".na"), 0);
        Check.same("na twice", counted(12, ".na", ".na"), 0);
        Check.same("ju", counted(12, ".na", ".ju"), 1);
        Check.same("ju twice", counted(12, ".ju", ".ju"), 1);
    }
}
