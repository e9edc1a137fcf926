/** Runs of calls that a counter makes up, each answer compared with the Model's. */
public final class ModelTest {
    private static final String[] NAMES = {"br", "fi", "nf", "ju", "na", "ls", "in", "ti", "rm", "ce", "ul", "sp", "bp",
        "pl", "he", "fo", "zz", "b", ""};
    private static final String LETTERS = "abcdefghijklmnopqrstuvwxyz-.#_^^^^^^^^";
    private static final int RUNS = 1500, CALLS = 160;

    private static long seed = 1;
    private static PageFormatter x;
    private static Model m;
    private static StringBuilder told;

    public static void main(String[] args) {
        for (int run = 0; run < RUNS && Check.wrong() == 0; run++) {
            x = new PageFormatter();
            m = new Model();
            told = new StringBuilder("run " + run + ":");
            int style = run % 4;
            for (int i = 0; i < CALLS && Check.wrong() == 0; i++) {
                step(style);
            }
            compareAll();
        }
        Check.end();
    }

    /** The next of numbers that look unordered, below n; the same in every run of this test. */
    private static int next(int n) {
        seed = seed * 6364136223846793005L + 1442695040888963407L;
        return (int) ((seed >>> 33) % n);
    }

    private static void same(String call, long got, long due) {
        if (got != due) {
            Check.same(told + " " + call, got, due);
        }
    }

    private static void step(int style) {
        int choice = next(40);
        if (choice == 0) {
            told.append("\nfinish");
            same("", x.finish(), m.finish());
        } else if (choice == 1 && next(4) == 0) {
            told.append("\nwipe");
            same("", x.wipe(), m.wipe());
        } else if (choice == 2) {
            long w = seed;
            int n = next(12) - 1;
            told.append("\ntype ").append(w).append(' ').append(n);
            same("", x.type(w, n), m.type(w, n));
        } else if (choice < (style == 0 ? 8 : 16)) {
            entered(commandLine(style));
        } else {
            entered(textLine(style));
        }
        compareState();
    }

    private static void entered(String line) {
        told.append("\n[").append(line).append(']');
        for (int i = 0; i < line.length(); i += 8) {
            String part = line.substring(i, Math.min(line.length(), i + 8));
            same("type", x.type(Check.packed(part), part.length()), m.type(Check.packed(part), part.length()));
        }
        same("enter", x.enter(), m.enter());
    }

    private static String commandLine(int style) {
        String name = NAMES[next(NAMES.length)];
        if (style == 0 && next(3) > 0) {
            name = next(2) == 0 ? "rm" : "xx";
        }
        String sign = new String[] {"", "", "+", "-"}[next(4)];
        int most = name.equals("rm") ? 30 : name.equals("ti") || name.equals("in") ? 8 : name.equals("pl") ? 20 : 12;
        String rest = switch (next(8)) {
            case 0 -> "";
            case 1 -> sign + next(12000);
            case 2 -> sign + "000" + next(50);
            case 3 -> sign + "#x" + next(9);
            default -> sign + next(most);
        };
        return "." + name + " ".repeat(next(3)) + rest + " ".repeat(next(2));
    }

    private static String textLine(int style) {
        StringBuilder line = new StringBuilder();
        if (next(9) == 0) {
            line.append(" ".repeat(next(6)));
        }
        int words = next(style == 0 ? 30 : 7);
        for (int i = 0; i < words && line.length() < 88; i++) {
            int letters = 1 + next(style == 1 ? 3 : style == 2 ? 12 : 6);
            for (int k = 0; k < letters; k++) {
                line.append(LETTERS.charAt(next(LETTERS.length())));
            }
            line.append(next(12) == 0 ? "  " : " ");
        }
        if (next(2) == 0) {
            return line.toString().stripTrailing();
        }
        return line.toString();
    }

    private static void compareState() {
        for (int what = -1; what <= 17; what++) {
            same("count " + what, x.count(what), m.count(what));
        }
        same("length", x.length(), m.length());
        same("demerits", x.demerits(), m.demerits());
        int i = next(6);
        for (int what = -1; what <= 6; what++) {
            same("line " + i + " " + what, x.line(i, what), m.line(i, what));
        }
    }

    private static void compareAll() {
        told.append("\nat the end: ");
        for (int i = -1; i <= m.length(); i++) {
            if (x.at(i) != m.at(i)) {
                same("at " + i, x.at(i), m.at(i));
                return;
            }
        }
        for (int i = -1; i <= m.count(13); i++) {
            for (int what = 0; what < 6; what++) {
                same("line " + i + " " + what, x.line(i, what), m.line(i, what));
            }
        }
    }
}
