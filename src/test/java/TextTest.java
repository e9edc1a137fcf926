/** Promise 3, enter: LINES of TEXT. */
public final class TextTest {
    public static void main(String[] args) {
        blankLines();
        leadingBlanks();
        centred();
        notFilled();
        words();
        underlined();
        eightyWords();
        Check.end();
    }

    private static String bodyAfter(String... lines) {
        return Check.body(Check.after(lines));
    }

    private static void blankLines() {
        PageFormatter x = Check.after(".in 3", ".ti 7", "word");
        Check.same("an empty LINE", x.enter(), 2);
        Check.same("its lines", Check.body(x), "       word\n\n");
        Check.enter(x, ".ti 7");
        Check.same("all blanks", Check.enter(x, "   "), 1);
        Check.same("no blanks are put", Check.body(x), "       word\n\n\n");
        Check.same("THIS INDENT is INDENT", x.count(6), 3);
        PageFormatter y = Check.after(".ul 2", ".ce 2", "", "  ");
        Check.same("they count for nothing", y.count(8) * 10 + y.count(9), 22);
    }

    private static void leadingBlanks() {
        Check.same("grows", bodyAfter(".in 2", "one", "   two", ".br"), "  one\n     two\n");
        Check.same("RIGHT less 1", Check.after(".rm 10", ".in 4", "        x").count(6), 9);
        Check.same("not filled", bodyAfter(".nf", ".in 1", "  a", "b"), "   a\n b\n");
        Check.same("only carets behind", Check.after("  ^^").count(6), 2);
    }

    private static void centred() {
        Check.same("even", bodyAfter(".rm 11", ".ce", "abcd"), "    abcd\n");
        Check.same("odd", bodyAfter(".rm 11", ".ce", "abc"), "    abc\n");
        Check.same("with THIS INDENT", bodyAfter(".rm 11", ".in 4", ".ce", "abcd"), "      abcd\n");
        Check.same("too long", bodyAfter(".rm 3", ".ce", "abcdefgh"), "abcdefgh\n");
        Check.same("just as long", bodyAfter(".rm 3", ".ce", "abcd"), "abcd\n");
        Check.same("carets, then blanks", bodyAfter(".rm 11", ".ce", "a^b^cd ^ ^"), "    abcd\n");
        Check.same("blanks before", bodyAfter(".rm 11", ".ce", "  abcd"), "     abcd\n");
        Check.same("only carets", bodyAfter(".rm 11", ".ce", "^^"), "\n");
        PageFormatter x = Check.after(".rm 11", ".in 2", ".ce 2", "abc", "", "def", "ghi", ".br");
        Check.same("two of them", Check.body(x), "     abc\n\n     def\n  ghi\n");
        Check.same("none left", x.count(8), 0);
        Check.same("before not filled", bodyAfter(".nf", ".rm 11", ".ce", "abc  ", "abc  "), "    abc\nabc  \n");
    }

    private static void notFilled() {
        Check.same("as it is", bodyAfter(".nf", "a  b^c^ ", "d"), "a  bc \nd\n");
        Check.same("only carets are an empty line", bodyAfter(".nf", ".in 3", "^", "^ "), "\n    \n");
        Check.same("longer than RIGHT", bodyAfter(".nf", ".rm 3", "abcdefg"), "abcdefg\n");
        Check.same("answers", Check.enter(Check.after(".nf"), "abc"), 1);
    }

    private static void words() {
        PageFormatter x = Check.after("one  two", "three   ", "^^ ^ four^");
        Check.same("words", x.count(0), 4);
        Check.same("lines", Check.enter(x, ".br"), 1);
        Check.same("one blank", Check.body(x), "one two three four\n");
        Check.same("none left", x.count(0), 0);
    }

    private static void underlined() {
        Check.same("not filled", bodyAfter(".nf", ".ul", "a b^c", "d"), "_\ba _\bb_\bc\nd\n");
        Check.same("centred", bodyAfter(".rm 11", ".ul", ".ce", "abc"), "    _\ba_\bb_\bc\n");
        Check.same("by LINES", bodyAfter(".ul 1", "ab", "cd", ".br"), "_\ba_\bb cd\n");
        Check.same("the hyphen alone", bodyAfter(".rm 3", ".ul", "ab^cd", ".br"), "_\ba_\bb-\n_\bc_\bd\n");
        Check.same("a hyphen of the word", bodyAfter(".ul", "a-b", ".br"), "_\ba_\b-_\bb\n");
        Check.same("blanks made full", bodyAfter(".rm 6", ".ul", "ab cd efgh", ".br"),
                "_\ba_\bb  _\bc_\bd\n_\be_\bf_\bg_\bh\n");
        PageFormatter x = Check.after(".ul 3", "a", ".xx", " ", "^");
        Check.same("count", x.count(9), 1);
        PageFormatter y = Check.after(".rm 5", ".ul", "abcde", ".br");
        Check.same("LENGTH stays", Check.facts(y, 0), "5 0 0 0 0 5");
    }

    private static void eightyWords() {
        PageFormatter x = new PageFormatter();
        for (int i = 0; i < 2; i++) {
            Check.enter(x, "a b c d e f g h i j k l m n o p q r s t u v w x y z a b c d e f g h i j k l m n");
        }
        Check.same("eighty", x.count(0), 80);
        Check.same("carets are no word", Check.enter(x, "^^^"), 0);
        Check.same("before the 81st", Check.enter(x, "last"), x.count(13));
        Check.same("which is gathered", x.count(0), 1);
        Check.same("lines", x.count(13), 4);
        PageFormatter y = Check.after(".in 2", ".ti 5");
        for (int i = 0; i < 3; i++) {
            Check.enter(y, "a b c d e f g h i j k l m n o p q r s t u v w x y z a b c d e f g h");
        }
        Check.same("in the midst of a LINE", y.count(0), 22);
        Check.same("THIS INDENT is INDENT then", y.count(6), 2);
    }
}
