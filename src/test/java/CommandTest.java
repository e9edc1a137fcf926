/** Promise 3, enter: the commands, their names, RESTS and NUMBERS. */
public final class CommandTest {
    public static void main(String[] args) {
        namesAreTwoBytes();
        numbers();
        bounds();
        breaks();
        indents();
        rightStaysAboveTheIndents();
        headsAndFeet();
        newPages();
        Check.end();
    }

    private static int counted(int what, String... lines) {
        return Check.after(lines).count(what);
    }

    private static void namesAreTwoBytes() {
        Check.same("other names", counted(14, ".", ".b", ".xx", ".BR", ". br", "..", ".r"), 7);
        Check.same("known names", counted(14, ".br", ".fi", ".nf", ".ju", ".na", ".ls", ".in", ".ti", ".rm",
                ".ce", ".ul", ".sp", ".bp", ".pl", ".he", ".fo"), 0);
        Check.same("a blank before is TEXT", counted(14, " .xx"), 0);
        Check.same("bytes right behind the name", counted(7, ".ls3"), 3);
        Check.same("blanks passed over", counted(7, ".ls    4"), 4);
        Check.same("passed over without a BREAK", Check.enterAll(new PageFormatter(), "word", ".xx"), 0);
        Check.same("bytes behind br", Check.enterAll(new PageFormatter(), "word", ".broken"), 1);
    }

    private static void numbers() {
        Check.same("plain", counted(7, ".ls 5"), 5);
        Check.same("more", counted(7, ".ls 5", ".ls +3"), 8);
        Check.same("less", counted(7, ".ls 5", ".ls -3"), 2);
        Check.same("none", counted(7, ".ls 5", ".ls"), 1);
        Check.same("no digit", counted(7, ".ls 5", ".ls x7"), 1);
        Check.same("a sign alone", counted(7, ".ls 5", ".ls +"), 1);
        Check.same("a blank behind the sign", counted(7, ".ls 5", ".ls + 2"), 1);
        Check.same("two signs", counted(7, ".ls 5", ".ls ++2"), 1);
        Check.same("what comes behind digits", counted(7, ".ls 3x9"), 3);
        Check.same("four digits count", counted(4, ".rm 00456"), 45);
        Check.same("zeros are digits", counted(4, ".rm 000070"), 1);
        Check.same("further ones passed over", counted(3, ".bp 001234"), 12);
        Check.same("four digits with a sign", counted(3, ".bp 100", ".bp -00501"), 50);
    }

    private static void bounds() {
        Check.same("ls least", counted(7, ".ls 0"), 1);
        Check.same("ls most", counted(7, ".ls 10"), 9);
        Check.same("ls below", counted(7, ".ls -9999"), 1);
        Check.same("in most", counted(5, ".in 40"), 39);
        Check.same("in least", counted(5, ".in 3", ".in -4"), 0);
        Check.same("in none", counted(5, ".in 3", ".in"), 0);
        Check.same("ti most", counted(6, ".rm 10", ".ti 99"), 9);
        Check.same("rm most", counted(4, ".rm 81"), 80);
        Check.same("rm least", counted(4, ".rm 0"), 1);
        Check.same("rm none", counted(4, ".rm 60", ".rm"), 40);
        Check.same("ce none", counted(8, ".ce"), 1);
        Check.same("ce most", counted(8, ".ce 100"), 99);
        Check.same("ce least", counted(8, ".ce 2", ".ce -3"), 0);
        Check.same("ul none", counted(9, ".ul"), 1);
        Check.same("ul most", counted(9, ".ul 98", ".ul +2"), 99);
        Check.same("ul least", counted(9, ".ul 0"), 0);
        Check.same("pl none", counted(10, ".pl 50", ".pl"), 24);
        Check.same("pl least", counted(10, ".pl 7"), 8);
        Check.same("pl most", counted(10, ".pl 100"), 99);
        Check.same("bp most", counted(3, ".bp 1000"), 999);
        Check.same("bp least", counted(3, ".bp 0"), 1);
    }

    private static void breaks() {
        String[] breaking = {".br", ".fi", ".nf", ".ti", ".ce", ".ce 0", ".sp", ".sp 0", "", " ", " x"};
        String[] others = {".ju", ".na", ".ls 2", ".in 2", ".rm 50", ".ul", ".pl 30", ".he h", ".fo f", ".zz", ".bp"};
        for (String name : breaking) {
            PageFormatter x = Check.after("word");
            Check.enter(x, name);
            Check.same(name + " parts", x.count(13), 1);
        }
        for (String name : others) {
            PageFormatter x = Check.after("word");
            Check.same(name + " puts", Check.enter(x, name), 0);
            Check.same(name + " keeps", x.count(0), 1);
        }
        Check.same("fi", counted(11, ".nf", ".fi"), 1);
        Check.same("nf", counted(11, ".nf"), 0);
        Check.same("ju", counted(12, ".na", ".ju"), 1);
        Check.same("na", counted(12, ".na"), 0);
        Check.same("nothing to part", Check.enterAll(new PageFormatter(), ".br", ".fi"), 0);
    }

    private static void indents() {
        PageFormatter x = Check.after(".in 4");
        Check.same("in sets both", x.count(5) * 100 + x.count(6), 404);
        Check.enter(x, ".ti +3");
        Check.same("ti from THIS INDENT", x.count(5) * 100 + x.count(6), 407);
        Check.enter(x, ".ti +3");
        Check.same("ti again", x.count(6), 10);
        Check.enter(x, ".in +1");
        Check.same("in from INDENT", x.count(5) * 100 + x.count(6), 505);
        Check.enterAll(x, ".ti", "a", ".br", "b", ".br");
        Check.same("used once", Check.body(x), "a\n     b\n");
        Check.same("THIS INDENT is INDENT then", x.count(6), 5);
        PageFormatter y = Check.after(".in 4", "word", ".ti +2");
        Check.same("ti behind its BREAK", Check.body(y) + y.count(6), "    word\n6");
    }

    private static void rightStaysAboveTheIndents() {
        Check.same("above INDENT", counted(4, ".in 20", ".ti 5", ".rm 10"), 21);
        Check.same("above THIS INDENT", counted(4, ".in 5", ".ti 30", ".rm 10"), 31);
        Check.same("default below THIS INDENT", counted(4, ".rm 80", ".ti 60", ".rm"), 61);
        Check.same("down", counted(4, ".rm 50", ".rm -20"), 30);
        Check.same("up", counted(4, ".rm +20"), 60);
    }

    private static void headsAndFeet() {
        PageFormatter x = Check.after(".pl 8", ".he   a#b ## ", ".fo-#-", ".bp 12", ".nf", "t", "u");
        Check.same("texts", Check.output(x), "\na12b 1212 \n\nt\nu\n\n-12-\n\n");
        Check.enterAll(x, ".he", "v");
        Check.same("no REST", Check.output(x).substring(24), "\n\n\nv\n");
    }

    private static void newPages() {
        PageFormatter x = Check.after(".pl 9", ".fo #", "word", ".bp 7");
        Check.same("no page begun", x.length() * 100 + x.count(3), 7);
        Check.enter(x, ".br");
        Check.same("then a page", x.count(2) * 100 + x.count(3), 708);
        Check.enter(x, "more");
        Check.same("puts", Check.enter(x, ".bp"), 1);
        Check.same("page is ended", Check.output(x), "\n\n\nword\nmore\n\n\n7\n\n");
        Check.same("as it is", x.count(3), 8);
        Check.enter(x, ".bp +5");
        Check.same("ended already", x.length() * 100 + x.count(3), 1813);
        Check.enter(x, ".bp -3");
        Check.same("less", x.count(3), 10);
    }
}
