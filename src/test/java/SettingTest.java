import java.util.Arrays;

/** Promise 3, enter: TO SET a value, with the default and the bounds of each command. */
public final class SettingTest {
    public static void main(String[] args) {
        toSet();
        Check.sentence("ls: SPACING, 1, 1 .. 9 (1).");
        setting(".ls", 7, 1, 1, 9);
        Check.sentence("ce: a BREAK, then CENTRED, 1, 0 .. 99 (0).");
        setting(".ce", 8, 1, 0, 99);
        Check.sentence("ul: UNDERLINED, 1, 0 .. 99 (0).");
        setting(".ul", 9, 1, 0, 99);
        Check.sentence("pl: PAGE LENGTH, 24, 8 .. 99 (24).");
        setting(".pl", 10, 24, 8, 99);
        indents();
        thisIndentIsIndent();
        thisIndentBehindABreak();
        right();
        space();
        nextPage();
        nextPageAboveItsBounds();
        Check.end();
    }

    private static int counted(int what, String... lines) {
        return Subject.after(lines).count(what);
    }

    private static void toSet() {
        Check.sentence("TO SET a value by a default d and bounds a .. b: without a NUMBER it is d; else with"
                + " + or - it is more or less by it, else it is it; then it is brought to a .. b.");
        Check.same("it is d", counted(10, ".pl 50", ".pl"), 24);
        Check.same("more by it", counted(10, ".pl 50", ".pl +10"), 60);
        Check.same("less by it", counted(10, ".pl 50", ".pl -10"), 40);
        Check.same("it is it", counted(10, ".pl 50", ".pl 10"), 10);
        Check.same("more than b", counted(10, ".pl 50", ".pl +50"), 99);
        Check.same("less than a", counted(10, ".pl 50", ".pl -50"), 8);
        Check.same("d at a", counted(4, ".rm 80", ".ti 39", ".rm"), 40);
        Check.same("d below a", counted(4, ".rm 80", ".ti 40", ".rm"), 41);
    }

    /** Below, at and above both bounds, by a NUMBER alone and by one with a sign; then the default. */
    private static void setting(String name, int what, int byDefault, int least, int most, String... before) {
        int[] plain = {0, least - 1, least, least + 1, most - 1, most, most + 1, 999, 1000, 9999};
        for (int n : plain) {
            if (n >= 0) {
                setOnce(name + " " + n, what, Math.max(least, Math.min(most, n)), before);
            }
        }
        int mid = (least + most) / 2;
        String[] atMid = Arrays.copyOf(before, before.length + 1);
        atMid[before.length] = name + " " + mid;
        int[] sums = {mid, most - 1, most, most + 1, mid + 9999};
        for (int sum : sums) {
            if (sum >= mid) {
                setOnce(name + " +" + (sum - mid), what, Math.min(most, sum), atMid);
            }
        }
        int[] differences = {mid, least + 1, least, least - 1, mid - 9999};
        for (int difference : differences) {
            if (difference <= mid) {
                setOnce(name + " -" + (mid - difference), what, Math.max(least, difference), atMid);
            }
        }
        setOnce(name, what, byDefault, atMid);
        setOnce(name + " +", what, byDefault, atMid);
    }

    private static void setOnce(String line, int what, int due, String... before) {
        Subject x = Subject.after(before);
        x.enter(line);
        Check.same(String.join(", ", before) + ", " + line, x.count(what), due);
    }

    private static void indents() {
        int[] rights = {1, 2, 40, 80};
        for (int right : rights) {
            Check.sentence("in: INDENT, 0, 0 .. RIGHT less 1 (0)");
            setting(".in", 5, 0, 0, right - 1, ".rm " + right);
            Check.sentence("ti: a BREAK, then THIS INDENT, 0, 0 .. RIGHT less 1.");
            setting(".ti", 6, 0, 0, right - 1, ".rm " + right);
        }
    }

    private static void thisIndentIsIndent() {
        Check.sentence("in: INDENT, 0, 0 .. RIGHT less 1 (0); THIS INDENT is it then.");
        Subject x = Subject.after(".ti 9", ".in 4");
        Check.same("INDENT, THIS INDENT", x.count(5) * 100 + x.count(6), 404);
        x.enterAll(".ti 9", ".in +1");
        Check.same("more than INDENT, not than THIS INDENT", x.count(5) * 100 + x.count(6), 505);
        x.enterAll(".ti 9", ".in 99");
        Check.same("brought to the bounds", x.count(5) * 100 + x.count(6), 3939);
        x.enterAll(".ti 9", ".in");
        Check.same("the default", x.count(5) * 100 + x.count(6), 0);
        x.enterAll(".in 3", ".ti +2");
        Check.same("ti leaves INDENT", x.count(5) * 100 + x.count(6), 305);
    }

    private static void thisIndentBehindABreak() {
        Check.sentence("ti: a BREAK, then THIS INDENT, 0, 0 .. RIGHT less 1.");
        Subject x = Subject.after(".in 4", ".ti 9", "word", ".ti +2");
        Check.same("the BREAK made it INDENT", x.count(6), 6);
        Check.same("bytes", x.body(), "         word\n");
        Check.sentence("ce: a BREAK, then CENTRED, 1, 0 .. 99 (0).");
        Check.same("ce from what it is", counted(8, ".ce 5", "one", ".ce +2"), 6);
    }

    private static void right() {
        Check.sentence("rm: RIGHT, 40, THIS INDENT and 1, or INDENT and 1, whichever is more, .. 80 (40).");
        setting(".rm", 4, 40, 1, 80);
        setting(".rm", 4, 40, 6, 80, ".in 5");
        setting(".rm", 4, 40, 6, 80, ".in 5", ".ti 4");
        setting(".rm", 4, 40, 7, 80, ".in 5", ".ti 6");
        setting(".rm", 4, 40, 7, 80, ".ti 6");
        setting(".rm", 4, 40, 39, 80, ".in 38");
        setting(".rm", 4, 40, 40, 80, ".ti 39");
        setting(".rm", 4, 41, 41, 80, ".rm 80", ".ti 40");
        setting(".rm", 4, 80, 80, 80, ".rm 80", ".in 79");
        Check.same("below THIS INDENT that blanks made", counted(4, "     word", ".rm 1"), 6);
    }

    /** PAGE LENGTH 99 leaves room for all; LINE NUMBER is 4 on the page that it begins. */
    private static void space() {
        Check.sentence("sp: SPACE by a NUMBER (as set from 0, 1, 0 .. 99).");
        String[] rests = {"", " 0", " 1", " 2", " 98", " 99", " 100", " 9999", " +0", " +3", " +99", " +100", " -1",
            " -0", " x"};
        int[] due = {1, 0, 1, 2, 98, 99, 99, 99, 0, 3, 99, 99, 0, 0, 1};
        for (int i = 0; i < rests.length; i++) {
            Check.same(".sp" + rests[i], counted(1, ".pl 99", ".sp" + rests[i]) - 4, due[i]);
        }
        Check.same("from 0 each time", counted(1, ".sp 5", ".sp +2", ".sp -3"), 11);
    }

    private static void nextPage() {
        Check.sentence("then THE NEXT PAGE, its number as it is (so without a NUMBER nothing more), 1 .. 999.");
        setting(".bp", 3, 500, 1, 999);
        Check.same("at first", counted(3, ".bp"), 1);
        Check.same("as it is at the least", counted(3, ".bp 1", ".bp"), 1);
        Check.same("as it is at the most", counted(3, ".bp 999", ".bp"), 999);
    }

    /** A HEAD makes it 1000, above its bounds; the next TO SET brings it back, without a NUMBER too. */
    private static void nextPageAboveItsBounds() {
        Check.sentence("then it is brought to a .. b.");
        String[] rests = {"", " +0", " +1", " -0", " -1", " -2", " 998", " 1000"};
        int[] due = {999, 999, 999, 999, 999, 998, 998, 999};
        for (int i = 0; i < rests.length; i++) {
            Subject x = Subject.after(".bp 999", ".sp 0");
            Check.same("behind page 999", x.count(3), 1000);
            x.enter(".bp" + rests[i]);
            Check.same(".bp" + rests[i], x.count(3), due[i]);
        }
    }
}
