/** Promises 5 to 7: wipe, length and at. */
public final class OutputTest {
    public static void main(String[] args) {
        PageFormatter x = Check.after(".he h", "ab", ".br");
        Check.same("length()", x.length(), 7);
        String due = "\nh\n\nab\n";
        for (int i = 0; i < due.length(); i++) {
            Check.same("at(" + i + ")", x.at(i), due.charAt(i));
        }
        int[] none = {7, 8, 19999, 20000, 20001, -1, Integer.MAX_VALUE, Integer.MIN_VALUE};
        for (int i : none) {
            Check.same("at(" + i + ")", x.at(i), PageFormatter.NONE);
        }
        Check.type(x, "cd");
        Check.same("wipe()", x.wipe(), 7);
        Check.same("length() then", x.length(), 0);
        Check.same("at(0) then", x.at(0), PageFormatter.NONE);
        Check.same("wipe() again", x.wipe(), 0);
        Check.same("the LINE stays", x.count(16), 2);
        Check.same("the page stays", x.count(1) * 10 + x.count(2), 51);
        Check.same("the PARAGRAPH stays", x.demerits(), 1);
        x.enter();
        Check.enter(x, ".br");
        Check.same("from the beginning", Check.output(x), "cd\n");
        Check.end();
    }
}
