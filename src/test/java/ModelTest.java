/** Runs of calls that a counter makes up, each answer compared with the Model's. */
public final class ModelTest {
    private static final String[] NAMES = {"br", "fi", "nf", "ju", "na", "ls", "in", "ti", "rm", "ce", "ul", "sp", "bp",
        "pl", "he", "fo", "zz", "b", ""};
    private static final String LETTERS = "abcdefghijklmnopqrstuvwxyz-.#_^^^^^^^^";
    private static final int RUNS = 8000;
    /** What a step may take, and what the comparison at the end is to have left. */
    private static final int CALLS_OF_A_STEP = 60, CALLS_AT_THE_END = 160;

    private static long seed = 1;
    private static Subject x;
    private static Model m;
    private static StringBuilder told;

    public static void main(String[] args) {
        for (int run = 0; run < RUNS && Check.wrong() == 0; run++) {
            x = new Subject();
            m = new Model();
            told = new StringBuilder("run " + run + ":");
            int style = run % 4;
            while (x.callsLeft() > CALLS_AT_THE_END + CALLS_OF_A_STEP && Check.wrong() == 0) {
                step(style);
            }
            compareState();
            compareLines();
            compareBytes();
        }
        Check.end();
    }

    /** The next of numbers that look unordered, below n; the same in every run of this test. */
    private static int next(int n) {
        seed = seed * 6364136223846793005L + 1442695040888963407L;
        return (int) ((seed >>> 33) % n);
    }

    private static void same(String call, long got, long due) {
        Check.same(got == due ? call : told + " " + call, got, due);
    }

    private static void step(int style) {
        int choice = next(40);
        if (choice == 0) {
            told.append("\nfinish");
            same("", x.finish(), m.finish());
        } else if (choice == 1 && next(4) == 0) {
            told.append("\nwipe");
            same("", x.wipe(), m.wipe());
        } else if (choice == 2) {
            long w = seed;
            int n = next(12) - 1;
            told.append("\ntype ").append(w).append(' ').append(n);
            same("", x.type(w, n), m.type(w, n));
        } else if (choice < (style == 0 ? 8 : 16)) {
            entered(commandLine(style));
        } else {
            entered(textLine(style));
        }
        compareSome();
    }

    private static void entered(String line) {
        told.append("\n[").append(line).append(']');
        for (int i = 0; i < line.length(); i += 8) {
            String part = line.substring(i, Math.min(line.length(), i + 8));
            same("type", x.type(Subject.packed(part), part.length()), m.type(Subject.packed(part), part.length()));
        }
        same("enter", x.enter(), m.enter());
    }

    private static String commandLine(int style) {
        String name = NAMES[next(NAMES.length)];
        if (style == 0 && next(3) > 0) {
            name = next(2) == 0 ? "rm" : "xx";
        }
        String sign = new String[] {"", "", "+", "-"}[next(4)];
        int most = name.equals("rm") ? 30 : name.equals("ti") || name.equals("in") ? 8 : name.equals("pl") ? 20 : 12;
        String rest = switch (next(8)) {
            case 0 -> "";
            case 1 -> sign + next(12000);
            case 2 -> sign + "000" + next(50);
            case 3 -> sign + "#x" + next(9);
            default -> sign + next(most);
        };
        return "." + name + " ".repeat(next(3)) + rest + " ".repeat(next(2));
    }

    private static String textLine(int style) {
        StringBuilder line = new StringBuilder();
        if (next(9) == 0) {
            line.append(" ".repeat(next(6)));
        }
        int words = next(style == 0 ? 30 : 7);
        for (int i = 0; i < words && line.length() < 88; i++) {
            int letters = 1 + next(style == 1 ? 3 : style == 2 ? 12 : 6);
            for (int k = 0; k < letters; k++) {
                line.append(LETTERS.charAt(next(LETTERS.length())));
            }
            line.append(next(12) == 0 ? "  " : " ");
        }
        if (next(2) == 0) {
            return line.toString().stripTrailing();
        }
        return line.toString();
    }

    /** A few of the answers, so that calls are left for further steps. */
    private static void compareSome() {
        for (int i = 0; i < 4; i++) {
            int what = next(19) - 1;
            same("count " + what, x.count(what), m.count(what));
        }
        int i = next(6);
        int what = next(8) - 1;
        same("line " + i + " " + what, x.line(i, what), m.line(i, what));
        same("length", x.length(), m.length());
        same("demerits", x.demerits(), m.demerits());
    }

    private static void compareState() {
        told.append("\nat the end: ");
        for (int what = -1; what <= 17; what++) {
            same("count " + what, x.count(what), m.count(what));
        }
        same("length", x.length(), m.length());
        same("demerits", x.demerits(), m.demerits());
    }

    private static void compareLines() {
        for (int i = -1; i <= Math.min(8, m.count(13)); i++) {
            for (int what = 0; what < 6; what++) {
                same("line " + i + " " + what, x.line(i, what), m.line(i, what));
            }
        }
    }

    /** As many as calls are left, from somewhere on. */
    private static void compareBytes() {
        int i = next(m.length() + 2) - 1;
        while (x.callsLeft() > 0) {
            same("at " + i, x.at(i), m.at(i));
            i = i > m.length() ? -1 : i + 1;
        }
    }
}
