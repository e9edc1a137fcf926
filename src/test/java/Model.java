import java.util.ArrayList;
import java.util.HashMap;
import java.util.List;
import java.util.Map;

/**
 * The document once more, in other words: texts and lists. Every way to part a
 * short PARAGRAPH is looked at, a longer one is weighed from the front.
 * ModelTest compares the class with it.
 */
final class Model {
    static final int NONE = -1, BAD = -2, FULL = -3;
    /** With more places than this the ways are too many to look at each. */
    private static final int MOST_PLACES_FOR_ALL_WAYS = 11;

    /** A piece of a word: what stands before the next place. */
    record Piece(String text, boolean endsWord, boolean underlined) {
    }

    record Line(int end, int length, int slack, int badness, int blanks, int hyphen, int room) {
        int kind() {
            return badness < 13 ? 0 : badness < 100 ? 1 : 2;
        }
    }

    record Way(long sum, List<Line> lines) {
        boolean isBetterThan(Way other) {
            if (other == null || sum != other.sum) {
                return other == null || sum < other.sum;
            }
            if (lines.size() != other.lines.size()) {
                return lines.size() < other.lines.size();
            }
            for (int i = 0; i < lines.size(); i++) {
                if (lines.get(i).end != other.lines.get(i).end) {
                    return lines.get(i).end < other.lines.get(i).end;
                }
            }
            return false;
        }
    }

    private String typed = "";
    private StringBuilder out = new StringBuilder();
    private List<Piece> pieces = new ArrayList<>();
    private Way latest;
    private int passed, put;
    private Map<String, Integer> v = new HashMap<>();
    private String head, foot;

    Model() {
        first();
    }

    private void first() {
        typed = "";
        head = "";
        foot = "";
        v.clear();
        String[] names = {"number", "0", "page", "0", "next", "1", "right", "40", "indent", "0", "this", "0",
            "spacing", "1", "centred", "0", "underlined", "0", "length", "24", "fill", "1", "justify", "1"};
        for (int i = 0; i < names.length; i += 2) {
            v.put(names[i], Integer.parseInt(names[i + 1]));
        }
    }

    private int get(String name) {
        return v.get(name);
    }

    int type(long w, int n) {
        if (n < 1 || n > 8) {
            return BAD;
        }
        if (typed.length() + n > 100) {
            return FULL;
        }
        for (int i = 0; i < n; i++, w >>= 8) {
            char c = (char) (w & 255);
            if (c >= ' ' && c <= '~') {
                typed += c;
            }
        }
        return typed.length();
    }

    int enter() {
        int before = put;
        String text = typed;
        typed = "";
        if (text.startsWith(".")) {
            command(text);
        } else {
            text(text);
        }
        return put - before;
    }

    int finish() {
        int before = put;
        parted();
        if (get("number") != 0) {
            space(99);
        }
        first();
        return put - before;
    }

    int wipe() {
        int had = out.length();
        out.setLength(0);
        return had;
    }

    int length() {
        return out.length();
    }

    int at(int i) {
        return i < 0 || i >= out.length() ? NONE : out.charAt(i);
    }

    long demerits() {
        return latest == null ? NONE : latest.sum;
    }

    int line(int i, int what) {
        if (latest == null || i < 0 || i >= latest.lines.size()) {
            return NONE;
        }
        Line l = latest.lines.get(i);
        int[] all = {l.length, l.slack, l.badness, l.blanks, l.hyphen, l.room};
        return what < 0 || what > 5 ? BAD : all[what];
    }

    int count(int what) {
        String[] names = {"", "number", "page", "next", "right", "indent", "this", "spacing", "centred", "underlined",
            "length", "fill", "justify"};
        if (what >= 1 && what <= 12) {
            return get(names[what]);
        }
        return switch (what) {
            case 0 -> (int) pieces.stream().filter(Piece::endsWord).count();
            case 13 -> latest == null ? 0 : latest.lines.size();
            case 14 -> passed;
            case 15 -> put;
            case 16 -> typed.length();
            default -> BAD;
        };
    }

    private void set(String name, String rest, int byDefault, int least, int most) {
        v.put(name, number(get(name), rest, byDefault, least, most));
    }

    private static int number(int value, String rest, int byDefault, int least, int most) {
        String digits = rest.replaceFirst("^[+-]?([0-9]{0,4}).*$", "$1");
        int result = byDefault;
        if (!digits.isEmpty()) {
            int n = Integer.parseInt(digits);
            result = rest.startsWith("+") ? value + n : rest.startsWith("-") ? value - n : n;
        }
        return result < least ? least : result > most ? most : result;
    }

    private void command(String text) {
        String name = text.length() < 3 ? "" : text.substring(1, 3);
        String rest = text.length() < 3 ? "" : text.substring(3).replaceFirst("^ *", "");
        int room = get("right") - 1;
        switch (name) {
            case "br" -> parted();
            case "fi", "nf" -> {
                parted();
                v.put("fill", name.equals("fi") ? 1 : 0);
            }
            case "ju", "na" -> v.put("justify", name.equals("ju") ? 1 : 0);
            case "ls" -> set("spacing", rest, 1, 1, 9);
            case "in" -> {
                set("indent", rest, 0, 0, room);
                v.put("this", get("indent"));
            }
            case "ti" -> {
                parted();
                set("this", rest, 0, 0, room);
            }
            case "rm" -> set("right", rest, 40, Math.max(get("this") + 1, get("indent") + 1), 80);
            case "ce" -> {
                parted();
                set("centred", rest, 1, 0, 99);
            }
            case "ul" -> set("underlined", rest, 1, 0, 99);
            case "sp" -> space(number(0, rest, 1, 0, 99));
            case "bp" -> {
                if (get("number") != 0) {
                    space(99);
                }
                set("next", rest, get("next"), 1, 999);
            }
            case "pl" -> set("length", rest, 24, 8, 99);
            case "he" -> head = rest;
            case "fo" -> foot = rest;
            default -> passed++;
        }
    }

    private void text(String given) {
        String text = given;
        if (text.isEmpty() || text.startsWith(" ")) {
            parted();
        }
        if (text.isBlank()) {
            putLine("", "");
            return;
        }
        String bare = text.stripLeading();
        v.put("this", Math.min(get("right") - 1, get("this") + text.length() - bare.length()));
        boolean underlined = get("underlined") > 0;
        v.merge("underlined", underlined ? -1 : 0, Integer::sum);
        if (get("centred") > 0) {
            v.merge("centred", -1, Integer::sum);
            String line = bare.replace("^", "").stripTrailing();
            v.put("this", Math.max(0, Math.floorDiv(get("right") + get("this") + 1 - line.length(), 2)));
            putLine(line, marked(line, underlined));
        } else if (get("fill") == 0) {
            String line = bare.replace("^", "");
            putLine(line, marked(line, underlined));
        } else {
            for (String word : bare.split(" +")) {
                gather(word, underlined);
            }
        }
    }

    private static String marked(String line, boolean underlined) {
        return underlined ? line.replaceAll("([^ ])", "_\b$1") : line;
    }

    private void gather(String word, boolean underlined) {
        String trimmed = word.replaceAll("^\\^+|\\^+$", "");
        if (trimmed.isEmpty()) {
            return;
        }
        if (count(0) == 80) {
            parted();
        }
        String[] parts = trimmed.split("\\^+");
        for (int i = 0; i < parts.length; i++) {
            pieces.add(new Piece(parts[i], i == parts.length - 1, underlined));
        }
    }

    private void parted() {
        if (pieces.isEmpty()) {
            return;
        }
        latest = pieces.size() <= MOST_PLACES_FOR_ALL_WAYS
                ? bestOfAll(new Way(0, List.of()), null) : bestByPlace();
        int from = 0;
        for (Line l : latest.lines) {
            boolean full = get("justify") == 1 && l.end < pieces.size();
            putLine("x", written(from, l, full ? l.slack : 0));
            from = l.end;
        }
        pieces.clear();
    }

    /** Looks at every way that goes on from this one. */
    private Way bestOfAll(Way begun, Way best) {
        int from = begun.lines.isEmpty() ? 0 : begun.lines.get(begun.lines.size() - 1).end;
        if (from == pieces.size()) {
            return begun.isBetterThan(best) ? begun : best;
        }
        Way found = best;
        for (int to = from + 1; to <= pieces.size(); to++) {
            Line l = lineOf(from, to);
            if (isLegal(from, l)) {
                found = bestOfAll(with(begun, l), found);
            }
        }
        return found;
    }

    /** The best way up to each place, by the KIND of the line that ends there. */
    private Way bestByPlace() {
        Way[][] best = new Way[pieces.size() + 1][3];
        for (int to = 1; to <= pieces.size(); to++) {
            for (int from = 0; from < to; from++) {
                Line l = lineOf(from, to);
                if (!isLegal(from, l)) {
                    continue;
                }
                Way[] before = from == 0 ? new Way[] {new Way(0, List.of())} : best[from];
                for (Way b : before) {
                    if (b != null && with(b, l).isBetterThan(best[to][l.kind()])) {
                        best[to][l.kind()] = with(b, l);
                    }
                }
            }
        }
        Way taken = null;
        for (Way w : best[pieces.size()]) {
            taken = w != null && w.isBetterThan(taken) ? w : taken;
        }
        return taken;
    }

    private boolean isLegal(int from, Line l) {
        return l.length <= l.room || l.end == from + 1;
    }

    private static Way with(Way way, Line l) {
        long more = (1L + l.badness) * (1L + l.badness) + (l.hyphen == 1 ? 3000 : 0);
        if (!way.lines.isEmpty()) {
            Line before = way.lines.get(way.lines.size() - 1);
            more += l.hyphen == 1 && before.hyphen == 1 ? 10000 : 0;
            more += Math.abs(l.kind() - before.kind()) == 2 ? 5000 : 0;
        }
        List<Line> lines = new ArrayList<>(way.lines);
        lines.add(l);
        return new Way(way.sum + more, lines);
    }

    private Line lineOf(int from, int to) {
        int length = 0;
        int blanks = 0;
        for (int i = from; i < to; i++) {
            length += pieces.get(i).text.length();
            blanks += i < to - 1 && pieces.get(i).endsWord ? 1 : 0;
        }
        int hyphen = pieces.get(to - 1).endsWord ? 0 : 1;
        length += blanks + hyphen;
        int room = get("right") - (from == 0 ? get("this") : get("indent"));
        int slack = Math.max(0, room - length);
        int badness;
        if (length > room) {
            badness = 10000;
        } else if (to == pieces.size() || slack == 0) {
            badness = 0;
        } else if (blanks == 0 || slack > 20 * blanks) {
            badness = 10000;
        } else {
            badness = (int) Math.min(10000, 100L * slack * slack * slack / ((long) blanks * blanks * blanks));
        }
        return new Line(to, length, slack, badness, blanks, hyphen, room);
    }

    private String written(int from, Line l, int slack) {
        StringBuilder s = new StringBuilder();
        int k = 0;
        for (int i = from; i < l.end; i++) {
            s.append(marked(pieces.get(i).text, pieces.get(i).underlined));
            if (i < l.end - 1 && pieces.get(i).endsWord) {
                k++;
                s.append(" ".repeat(1 + slack * k / l.blanks - slack * (k - 1) / l.blanks));
            }
        }
        return s.append(l.hyphen == 1 ? "-" : "").toString();
    }

    private void bytes(String s) {
        out.append(s);
        out.setLength(Math.min(20000, out.length()));
    }

    private int bottom() {
        return get("length") - 3;
    }

    private void putLine(String line, String shown) {
        if (get("number") == 0 || get("number") > bottom()) {
            head();
        }
        bytes((line.isEmpty() ? "" : " ".repeat(get("this"))) + shown + "\n");
        v.put("this", get("indent"));
        bytes("\n".repeat(Math.min(get("spacing") - 1, Math.max(0, bottom() - get("number")))));
        v.merge("number", get("spacing"), Integer::sum);
        put++;
        if (get("number") > bottom()) {
            foot();
        }
    }

    private void space(int n) {
        parted();
        if (get("number") > bottom()) {
            return;
        }
        if (get("number") == 0) {
            head();
        }
        bytes("\n".repeat(Math.min(n, bottom() + 1 - get("number"))));
        v.merge("number", n, Integer::sum);
        if (get("number") > bottom()) {
            foot();
        }
    }

    private void head() {
        v.put("page", get("next"));
        v.merge("next", 1, Integer::sum);
        bytes("\n" + head.replace("#", "" + get("page")) + "\n\n");
        v.put("number", 4);
    }

    private void foot() {
        bytes("\n" + foot.replace("#", "" + get("page")) + "\n\n");
    }
}
