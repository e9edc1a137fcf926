import java.nio.charset.StandardCharsets;

/**
 * A PageFormatter that a test asks, with LINES given as texts. It refuses more
 * calls than the document promises answers for, so that no test asks for one
 * that is free.
 */
final class Subject {
    static final int MOST_CALLS = 512;

    private final PageFormatter formatter = new PageFormatter();
    private int calls = 0;

    static Subject after(String... lines) {
        Subject x = new Subject();
        x.enterAll(lines);
        return x;
    }

    /** Behind the LINES a BREAK. */
    static Subject parted(String... lines) {
        Subject x = after(lines);
        x.enter(".br");
        return x;
    }

    /** The bytes as they are handed to type: the first one lowest. */
    static long packed(String text) {
        byte[] bytes = text.getBytes(StandardCharsets.ISO_8859_1);
        long w = 0;
        for (int i = bytes.length - 1; i >= 0; i--) {
            w = w << 8 | bytes[i] & 255;
        }
        return w;
    }

    private PageFormatter used() {
        calls++;
        if (calls > MOST_CALLS) {
            throw new IllegalStateException("what call " + calls + " answers is free");
        }
        return formatter;
    }

    int callsLeft() {
        return MOST_CALLS - calls;
    }

    int type(long w, int n) {
        return used().type(w, n);
    }

    int enter() {
        return used().enter();
    }

    int finish() {
        return used().finish();
    }

    int wipe() {
        return used().wipe();
    }

    int length() {
        return used().length();
    }

    int at(int i) {
        return used().at(i);
    }

    long demerits() {
        return used().demerits();
    }

    int line(int i, int what) {
        return used().line(i, what);
    }

    int count(int what) {
        return used().count(what);
    }

    void type(String text) {
        for (int i = 0; i < text.length(); i += 8) {
            String part = text.substring(i, Math.min(text.length(), i + 8));
            type(packed(part), part.length());
        }
    }

    int enter(String text) {
        type(text);
        return enter();
    }

    /** Enters each LINE, and answers how many lines were PUT in all. */
    int enterAll(String... lines) {
        int put = 0;
        for (String line : lines) {
            put += enter(line);
        }
        return put;
    }

    String output() {
        return outputFrom(0);
    }

    String outputFrom(int start) {
        StringBuilder s = new StringBuilder();
        int end = length();
        for (int i = start; i < end; i++) {
            s.append((char) at(i));
        }
        return s.toString();
    }

    /** THE OUTPUT behind the first HEAD, which takes three bytes if its text is empty. */
    String body() {
        return outputFrom(3);
    }

    /** LENGTH, SLACK, BADNESS, blanks, hyphen and ROOM of a line of the latest PARAGRAPH. */
    String facts(int i) {
        StringBuilder s = new StringBuilder();
        for (int what = 0; what < 6; what++) {
            s.append(what == 0 ? "" : " ").append(line(i, what));
        }
        return s.toString();
    }
}
