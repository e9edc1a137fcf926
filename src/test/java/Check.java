import java.nio.charset.StandardCharsets;

/** What the tests share: LINES from texts, THE OUTPUT as a text, and the tally of wrong answers. */
final class Check {
    private static int wrong = 0;

    private Check() {
    }

    static void same(String what, long got, long due) {
        if (got != due) {
            wrong++;
            System.out.println(what + " answered " + got + ", due is " + due);
        }
    }

    static void same(String what, String got, String due) {
        if (!got.equals(due)) {
            wrong++;
            System.out.println(what + " gave [" + shown(got) + "], due is [" + shown(due) + "]");
        }
    }

    static void end() {
        System.out.println(wrong == 0 ? "all answers are as due" : wrong + " answers are not as due");
        if (wrong != 0) {
            System.exit(1);
        }
    }

    static int wrong() {
        return wrong;
    }

    /** The bytes as they are handed to type: the first one lowest. */
    static long packed(String text) {
        byte[] bytes = text.getBytes(StandardCharsets.ISO_8859_1);
        long w = 0;
        for (int i = bytes.length - 1; i >= 0; i--) {
            w = w << 8 | bytes[i] & 255;
        }
        return w;
    }

    static void type(PageFormatter x, String text) {
        for (int i = 0; i < text.length(); i += 8) {
            String part = text.substring(i, Math.min(text.length(), i + 8));
            x.type(packed(part), part.length());
        }
    }

    static int enter(PageFormatter x, String text) {
        type(x, text);
        return x.enter();
    }

    /** Enters each LINE, and answers how many lines were PUT in all. */
    static int enterAll(PageFormatter x, String... lines) {
        int put = 0;
        for (String line : lines) {
            put += enter(x, line);
        }
        return put;
    }

    static PageFormatter after(String... lines) {
        PageFormatter x = new PageFormatter();
        enterAll(x, lines);
        return x;
    }

    static String output(PageFormatter x) {
        StringBuilder s = new StringBuilder();
        for (int i = 0; i < x.length(); i++) {
            s.append((char) x.at(i));
        }
        return s.toString();
    }

    /** THE OUTPUT behind the first HEAD, which takes three bytes if its text is empty. */
    static String body(PageFormatter x) {
        String all = output(x);
        return all.length() < 3 ? all : all.substring(3);
    }

    /** LENGTH, SLACK, BADNESS, blanks, hyphen and ROOM of a line of the latest PARAGRAPH. */
    static String facts(PageFormatter x, int i) {
        StringBuilder s = new StringBuilder();
        for (int what = 0; what < 6; what++) {
            s.append(what == 0 ? "" : " ").append(x.line(i, what));
        }
        return s.toString();
    }

    private static String shown(String text) {
        return text.replace("\n", "\\n").replace("\b", "\\b");
    }
}
