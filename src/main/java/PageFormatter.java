/**
 * A formatter of text: lines with commands and words come in, paragraphs are
 * parted into lines with the least sum of demerits, pages get heads and feet.
 */
public final class PageFormatter {
    public static final int NONE = -1, BAD = -2, FULL = -3;

    private static final int BACKSPACE = 8, NEWLINE = 10, BLANK = 32, LAST_BYTE = 126;
    private static final int LINE_LIMIT = 100;
    private static final int OUTPUT_LIMIT = 20000;
    private static final int MAX_WORDS = 80;
    /** A word of 100 bytes has at most 50 letters, so 49 hyphen points and its end. */
    private static final int MAX_PLACES = MAX_WORDS * LINE_LIMIT / 2;

    private static final int WHOLE_PAGE = 99;

    private static final int BR = 'b' << 8 | 'r', FI = 'f' << 8 | 'i', NF = 'n' << 8 | 'f';
    private static final int JU = 'j' << 8 | 'u', NA = 'n' << 8 | 'a', LS = 'l' << 8 | 's';
    private static final int IN = 'i' << 8 | 'n', TI = 't' << 8 | 'i', RM = 'r' << 8 | 'm';
    private static final int CE = 'c' << 8 | 'e', UL = 'u' << 8 | 'l', SP = 's' << 8 | 'p';
    private static final int BP = 'b' << 8 | 'p', PL = 'p' << 8 | 'l';
    private static final int HE = 'h' << 8 | 'e', FO = 'f' << 8 | 'o';

    private final Text entered = new Text();
    private final Command command = new Command();
    private final Layout layout = new Layout();
    private final Output output = new Output();
    private final Pages pages = new Pages(layout, output);
    private final Paragraph paragraph = new Paragraph();
    private final Parting parting = new Parting();
    private int passedOver = 0;

    public PageFormatter() {
    }

    public int type(long w, int n) {
        if (n < 1 || n > 8) {
            return BAD;
        }
        if (entered.size + n > LINE_LIMIT) {
            return FULL;
        }
        for (int i = 0; i < n; i++) {
            int b = (int) (w >>> (8 * i)) & 255;
            if (b >= BLANK && b <= LAST_BYTE) {
                entered.add(b);
            }
        }
        return entered.size;
    }

    public int enter() {
        int before = pages.linesPut;
        if (entered.byteAt(0) == '.') {
            command.read(entered);
            if (breaksFirst()) {
                breakParagraph();
            }
            obey();
        } else {
            takeText();
        }
        entered.size = 0;
        return pages.linesPut - before;
    }

    public int finish() {
        int before = pages.linesPut;
        breakParagraph();
        if (pages.isBegun()) {
            pages.skip(WHOLE_PAGE);
        }
        entered.size = 0;
        layout.reset();
        pages.reset();
        return pages.linesPut - before;
    }

    public int wipe() {
        int had = output.size;
        output.size = 0;
        return had;
    }

    public int length() {
        return output.size;
    }

    public int at(int i) {
        return output.byteAt(i);
    }

    public long demerits() {
        return parting.sum;
    }

    public int line(int i, int what) {
        return parting.fact(i, what);
    }

    public int count(int what) {
        switch (what) {
            case 0: return paragraph.wordCount;
            case 1: return pages.lineNumber;
            case 2: return pages.page;
            case 3: return pages.nextPage;
            case 4: return layout.right;
            case 5: return layout.indent;
            case 6: return layout.thisIndent;
            case 7: return layout.spacing;
            case 8: return layout.centred;
            case 9: return layout.underlined;
            case 10: return layout.pageLength;
            case 11: return layout.fill ? 1 : 0;
            case 12: return layout.justify ? 1 : 0;
            case 13: return parting.lineCount;
            case 14: return passedOver;
            case 15: return pages.linesPut;
            case 16: return entered.size;
            default: return BAD;
        }
    }

    private boolean breaksFirst() {
        switch (command.name) {
            case BR: case FI: case NF: case TI: case CE: case SP: return true;
            case BP: return pages.isBegun();
            default: return false;
        }
    }

    /** Does what the command asks behind its BREAK, which is done already. */
    private void obey() {
        switch (command.name) {
            case BR: break;
            case FI: layout.fill = true; break;
            case NF: layout.fill = false; break;
            case JU: layout.justify = true; break;
            case NA: layout.justify = false; break;
            case LS: layout.spacing = command.set(layout.spacing, 1, 1, 9); break;
            case IN: setIndent(); break;
            case TI: layout.thisIndent = command.set(layout.thisIndent, 0, 0, layout.right - 1); break;
            case RM: layout.right = command.set(layout.right, 40, layout.leastRight(), 80); break;
            case CE: layout.centred = command.set(layout.centred, 1, 0, 99); break;
            case UL: layout.underlined = command.set(layout.underlined, 1, 0, 99); break;
            case SP: pages.skip(command.set(0, 1, 0, 99)); break;
            case BP: beginPage(); break;
            case PL: layout.pageLength = command.set(layout.pageLength, 24, 8, 99); break;
            case HE: pages.head.copyFrom(entered, command.rest); break;
            case FO: pages.foot.copyFrom(entered, command.rest); break;
            default: passedOver++; break;
        }
    }

    private void setIndent() {
        layout.indent = command.set(layout.indent, 0, 0, layout.right - 1);
        layout.thisIndent = layout.indent;
    }

    private void beginPage() {
        if (pages.isBegun()) {
            pages.skip(WHOLE_PAGE);
        }
        pages.nextPage = command.set(pages.nextPage, pages.nextPage, 1, 999);
    }

    private void takeText() {
        int blanks = entered.leadingBlanks();
        if (blanks > 0 || entered.size == 0) {
            breakParagraph();
        }
        if (blanks == entered.size) {
            putEmptyLine();
            return;
        }
        layout.growThisIndent(blanks);
        entered.dropFirst(blanks);
        boolean underlined = layout.takeUnderlined();
        if (layout.centred > 0) {
            putCentred(underlined);
        } else if (!layout.fill) {
            entered.dropCarets();
            putEntered(underlined);
        } else {
            gatherWords(underlined);
        }
    }

    private void putEmptyLine() {
        pages.openLine(true);
        pages.closeLine();
    }

    private void putCentred(boolean underlined) {
        layout.centred--;
        entered.dropCarets();
        entered.dropEndBlanks();
        int twice = layout.right + layout.thisIndent + 1 - entered.size;
        layout.thisIndent = Math.max(0, twice) / 2;
        putEntered(underlined);
    }

    private void putEntered(boolean underlined) {
        pages.openLine(entered.size == 0);
        output.putBytes(entered.bytes, 0, entered.size, underlined);
        pages.closeLine();
    }

    private void gatherWords(boolean underlined) {
        int from = 0;
        for (int to = 0; to <= entered.size; to++) {
            if (to < entered.size && entered.byteAt(to) != BLANK) {
                continue;
            }
            if (entered.hasLetters(from, to)) {
                if (paragraph.wordCount >= MAX_WORDS) {
                    breakParagraph();
                }
                paragraph.addWord(entered, from, to, underlined);
            }
            from = to + 1;
        }
    }

    private void breakParagraph() {
        if (paragraph.wordCount == 0) {
            return;
        }
        parting.weighWays(paragraph, layout.right - layout.thisIndent, layout.right - layout.indent);
        parting.takeBestWay(paragraph);
        int from = 0;
        for (int i = 0; i < parting.lineCount; i++) {
            boolean full = layout.justify && i < parting.lineCount - 1;
            int to = parting.endOf(i);
            pages.openLine(false);
            paragraph.write(output, from, to, full ? parting.fact(i, Parting.SLACK) : 0);
            pages.closeLine();
            from = to;
        }
        paragraph.clear();
    }

    /** The bytes of a LINE, or of a head or a foot. */
    private static final class Text {
        final byte[] bytes = new byte[LINE_LIMIT];
        int size = 0;

        void add(int b) {
            if (size < bytes.length) {
                bytes[size] = (byte) b;
                size++;
            }
        }

        int byteAt(int i) {
            return i >= 0 && i < size ? bytes[i] : NONE;
        }

        int leadingBlanks() {
            return passBlanks(0);
        }

        /** Where the first byte from there on is that is no blank. */
        int passBlanks(int from) {
            int i = from;
            while (i < size && byteAt(i) == BLANK) {
                i++;
            }
            return i;
        }

        boolean hasLetters(int from, int to) {
            for (int i = from; i < to; i++) {
                if (byteAt(i) != '^') {
                    return true;
                }
            }
            return false;
        }

        void copyFrom(Text other, int from) {
            size = 0;
            for (int i = from; i < other.size; i++) {
                add(other.byteAt(i));
            }
        }

        void dropFirst(int n) {
            int had = size;
            size = 0;
            for (int i = n; i < had && i < bytes.length; i++) {
                add(bytes[i]);
            }
        }

        void dropCarets() {
            int had = size;
            size = 0;
            for (int i = 0; i < had && i < bytes.length; i++) {
                if (bytes[i] != '^') {
                    add(bytes[i]);
                }
            }
        }

        void dropEndBlanks() {
            while (size > 0 && byteAt(size - 1) == BLANK) {
                size--;
            }
        }
    }

    /** What a LINE that begins with a point says. */
    private static final class Command {
        static final int NO_NAME = 0, NAME_END = 3, MAX_DIGITS = 4;

        int name = NO_NAME;
        int rest = 0;
        int sign = 0;
        int amount = 0;
        boolean numbered = false;

        void read(Text text) {
            name = text.size < NAME_END ? NO_NAME : text.byteAt(1) << 8 | text.byteAt(2);
            rest = text.passBlanks(NAME_END);
            readNumber(text);
        }

        private void readNumber(Text text) {
            sign = text.byteAt(rest);
            boolean signed = sign == '+' || sign == '-';
            int start = signed ? rest + 1 : rest;
            int digits = 0;
            amount = 0;
            while (digits < MAX_DIGITS && isDigit(text.byteAt(start + digits))) {
                amount = amount * 10 + text.byteAt(start + digits) - '0';
                digits++;
            }
            numbered = digits > 0;
        }

        private static boolean isDigit(int b) {
            return b >= '0' && b <= '9';
        }

        int set(int value, int byDefault, int least, int most) {
            int wanted = amount;
            if (!numbered) {
                wanted = byDefault;
            } else if (sign == '+') {
                wanted = value + amount;
            } else if (sign == '-') {
                wanted = value - amount;
            }
            return Math.max(least, Math.min(most, wanted));
        }
    }

    /** The values that commands set, but for those of the pages. */
    private static final class Layout {
        int right;
        int indent;
        int thisIndent;
        int spacing;
        int centred;
        int underlined;
        int pageLength;
        boolean fill;
        boolean justify;

        Layout() {
            reset();
        }

        void reset() {
            right = 40;
            indent = 0;
            thisIndent = 0;
            spacing = 1;
            centred = 0;
            underlined = 0;
            pageLength = 24;
            fill = true;
            justify = true;
        }

        int leastRight() {
            return Math.max(thisIndent, indent) + 1;
        }

        void growThisIndent(int blanks) {
            thisIndent = Math.min(right - 1, thisIndent + blanks);
        }

        boolean takeUnderlined() {
            if (underlined == 0) {
                return false;
            }
            underlined--;
            return true;
        }
    }

    /** THE OUTPUT; what comes when it is full is lost. */
    private static final class Output {
        static final int BIGGEST_UNIT = 1000000000;

        final byte[] bytes = new byte[OUTPUT_LIMIT];
        int size = 0;

        int byteAt(int i) {
            return i >= 0 && i < size ? bytes[i] : NONE;
        }

        void put(int b) {
            if (size < bytes.length) {
                bytes[size] = (byte) b;
                size++;
            }
        }

        void repeat(int b, int times) {
            for (int i = 0; i < times; i++) {
                put(b);
            }
        }

        void putBytes(byte[] from, int begin, int end, boolean underlined) {
            for (int i = Math.max(0, begin); i < end && i < from.length; i++) {
                if (underlined && from[i] != BLANK) {
                    put('_');
                    put(BACKSPACE);
                }
                put(from[i]);
            }
        }

        /** A head or a foot; the digits are put here to keep the calls flat. */
        void putMargin(Text text, int page) {
            put(NEWLINE);
            for (int i = 0; i < text.size; i++) {
                if (text.byteAt(i) != '#') {
                    put(text.byteAt(i));
                    continue;
                }
                for (int unit = BIGGEST_UNIT; unit > 0; unit /= 10) {
                    if (page >= unit || unit == 1) {
                        put('0' + page / unit % 10);
                    }
                }
            }
            put(NEWLINE);
            put(NEWLINE);
        }
    }

    /** Where on which page the next line comes. */
    private static final class Pages {
        static final int FIRST_LINE = 4, FOOT_LINES = 3;

        final Layout layout;
        final Output output;
        final Text head = new Text();
        final Text foot = new Text();
        int lineNumber = 0;
        int page = 0;
        int nextPage = 1;
        int linesPut = 0;

        Pages(Layout layout, Output output) {
            this.layout = layout;
            this.output = output;
        }

        /** All but linesPut, which a finish leaves. */
        void reset() {
            head.size = 0;
            foot.size = 0;
            lineNumber = 0;
            page = 0;
            nextPage = 1;
        }

        boolean isBegun() {
            return lineNumber != 0;
        }

        private int bottom() {
            return layout.pageLength - FOOT_LINES;
        }

        /** The part of PUT that comes before the line's own bytes. */
        void openLine(boolean empty) {
            if (!isBegun() || lineNumber > bottom()) {
                begin();
            }
            if (!empty) {
                output.repeat(BLANK, layout.thisIndent);
            }
        }

        /** The part of PUT that comes behind the line's own bytes. */
        void closeLine() {
            output.put(NEWLINE);
            layout.thisIndent = layout.indent;
            int left = Math.max(0, bottom() - lineNumber);
            output.repeat(NEWLINE, Math.min(layout.spacing - 1, left));
            linesPut++;
            goDown(layout.spacing);
        }

        /** SPACE behind its BREAK. */
        void skip(int n) {
            if (lineNumber > bottom()) {
                return;
            }
            if (!isBegun()) {
                begin();
            }
            output.repeat(NEWLINE, Math.min(n, bottom() + 1 - lineNumber));
            goDown(n);
        }

        private void begin() {
            page = nextPage;
            nextPage++;
            output.putMargin(head, page);
            lineNumber = FIRST_LINE;
        }

        private void goDown(int lines) {
            lineNumber += lines;
            if (lineNumber > bottom()) {
                output.putMargin(foot, page);
            }
        }
    }

    /**
     * The words that are gathered. Place 0 is the beginning; each further place
     * is a hyphen point or a word's end, in their order.
     */
    private static final class Paragraph {
        final byte[] letters = new byte[MAX_WORDS * LINE_LIMIT];
        final int[] lettersBefore = new int[MAX_PLACES + 1];
        final int[] wordsBefore = new int[MAX_PLACES + 1];
        final boolean[] underlinedWords = new boolean[MAX_WORDS];
        int letterCount = 0;
        int lastPlace = 0;
        int wordCount = 0;

        void clear() {
            letterCount = 0;
            lastPlace = 0;
            wordCount = 0;
        }

        void addWord(Text text, int from, int to, boolean underlined) {
            if (wordCount >= MAX_WORDS) {
                return;
            }
            int begin = letterCount;
            for (int i = from; i < to; i++) {
                if (text.byteAt(i) == '^') {
                    continue;
                }
                if (letterCount > begin && text.byteAt(i - 1) == '^') {
                    addPlace();
                }
                addLetter(text.byteAt(i));
            }
            underlinedWords[wordCount] = underlined;
            wordCount++;
            addPlace();
        }

        private void addLetter(int b) {
            if (letterCount < letters.length) {
                letters[letterCount] = (byte) b;
                letterCount++;
            }
        }

        private void addPlace() {
            if (lastPlace < MAX_PLACES) {
                lastPlace++;
                lettersBefore[lastPlace] = letterCount;
                wordsBefore[lastPlace] = wordCount;
            }
        }

        /** No word ends at a hyphen point. */
        boolean isHyphen(int place) {
            return place > 0 && place <= lastPlace && wordsBefore[place] == wordsBefore[place - 1];
        }

        /** As many as words end between the two places. */
        int blanksIn(int from, int to) {
            if (from < 0 || from >= to || to > lastPlace) {
                return 0;
            }
            return wordsBefore[to - 1] - wordsBefore[from];
        }

        int lettersIn(int from, int to) {
            if (from < 0 || from >= to || to > lastPlace) {
                return 0;
            }
            return lettersBefore[to] - lettersBefore[from];
        }

        int lengthOf(int from, int to) {
            return lettersIn(from, to) + blanksIn(from, to) + (isHyphen(to) ? 1 : 0);
        }

        void write(Output output, int from, int to, int slack) {
            int blanks = blanksIn(from, to);
            int k = 0;
            for (int place = from; place < to; place++) {
                if (place > from && blanks > 0 && !isHyphen(place)) {
                    k++;
                    output.repeat(BLANK, 1 + slack * k / blanks - slack * (k - 1) / blanks);
                }
                writePiece(output, place);
            }
            if (isHyphen(to)) {
                output.put('-');
            }
        }

        private void writePiece(Output output, int place) {
            if (place < 0 || place >= lastPlace) {
                return;
            }
            int word = wordsBefore[place];
            boolean underlined = word >= 0 && word < MAX_WORDS && underlinedWords[word];
            output.putBytes(letters, lettersBefore[place], lettersBefore[place + 1], underlined);
        }
    }

    /** How the latest PARAGRAPH was parted. */
    private static final class Parting {
        static final int LENGTH = 0, SLACK = 1, BADNESS = 2, BLANKS = 3, HYPHEN = 4, ROOM = 5, FACTS = 6;
        static final int WORST = 10000;
        static final int KINDS = 3;
        /** KIND 1 has no extra demerits beside any other, as if no line came before. */
        static final int NO_LINE_BEFORE = 1;
        /** Above any number of lines: a cost is demerits times this, and the lines. */
        static final long DEMERIT = 8192;

        /** By place and KIND of the line that ends there: the least cost of what is behind. */
        final long[] leastCost = new long[KINDS * (MAX_PLACES + 1)];
        /** By the same: where the first line behind it ends then. */
        final int[] bestEnd = new int[KINDS * (MAX_PLACES + 1)];
        final int[] ends = new int[MAX_PLACES];
        final int[] facts = new int[FACTS * MAX_PLACES];
        int firstRoom = 0;
        int otherRoom = 0;
        int lineCount = 0;
        long sum = NONE;

        int endOf(int i) {
            return i >= 0 && i < lineCount ? ends[i] : NONE;
        }

        int fact(int i, int what) {
            if (i < 0 || i >= lineCount) {
                return NONE;
            }
            return what >= 0 && what < FACTS ? facts[FACTS * i + what] : BAD;
        }

        void weighWays(Paragraph words, int roomOfFirst, int roomOfOthers) {
            firstRoom = roomOfFirst;
            otherRoom = roomOfOthers;
            int last = Math.min(words.lastPlace, MAX_PLACES);
            for (int kind = 0; kind < KINDS; kind++) {
                leastCost[KINDS * last + kind] = 0;
            }
            for (int from = last - 1; from >= 0; from--) {
                weighLinesFrom(words, from, last);
            }
        }

        void takeBestWay(Paragraph words) {
            int last = Math.min(words.lastPlace, MAX_PLACES);
            int from = 0;
            int kind = NO_LINE_BEFORE;
            lineCount = 0;
            sum = leastCost[NO_LINE_BEFORE] / DEMERIT;
            while (from >= 0 && from < last && lineCount < MAX_PLACES) {
                int to = bestEnd[KINDS * from + kind];
                recordLine(words, from, to, to == last);
                kind = kindOf(facts[FACTS * lineCount + BADNESS]);
                lineCount++;
                from = to;
            }
        }

        private int roomFrom(int place) {
            return place == 0 ? firstRoom : otherRoom;
        }

        /** The ends go up, and only a lower cost is taken: so the shorter line stays. */
        private void weighLinesFrom(Paragraph words, int from, int last) {
            int room = roomFrom(from);
            for (int kind = 0; kind < KINDS; kind++) {
                leastCost[KINDS * from + kind] = Long.MAX_VALUE;
            }
            for (int to = from + 1; to <= last; to++) {
                int length = words.lengthOf(from, to);
                if (length > room && to > from + 1) {
                    break;
                }
                int badness = badnessOf(length, room, words.blanksIn(from, to), to == last);
                int kind = kindOf(badness);
                long cost = DEMERIT * plainDemerits(words, from, to, badness) + 1
                        + leastCost[KINDS * to + kind];
                for (int before = 0; before < KINDS; before++) {
                    keepIfLess(KINDS * from + before, to, cost + DEMERIT * clash(before, kind));
                }
            }
        }

        private void keepIfLess(int state, int to, long cost) {
            if (state >= 0 && state < leastCost.length && cost < leastCost[state]) {
                leastCost[state] = cost;
                bestEnd[state] = to;
            }
        }

        private static int badnessOf(int length, int room, int blanks, boolean isLast) {
            if (length > room) {
                return WORST;
            }
            int slack = room - length;
            if (isLast || slack == 0) {
                return 0;
            }
            if (blanks <= 0 || slack > 20 * blanks) {
                return WORST;
            }
            return Math.min(WORST, 100 * slack * slack * slack / (blanks * blanks * blanks));
        }

        private static int kindOf(int badness) {
            if (badness < 13) {
                return 0;
            }
            return badness < 100 ? 1 : 2;
        }

        /** The demerits that do not hang on the KIND of the line before. */
        private static long plainDemerits(Paragraph words, int from, int to, int badness) {
            long demerits = (1L + badness) * (1L + badness);
            if (words.isHyphen(to)) {
                demerits += words.isHyphen(from) ? 13000 : 3000;
            }
            return demerits;
        }

        private static int clash(int kind, int other) {
            return kind - other == 2 || other - kind == 2 ? 5000 : 0;
        }

        private void recordLine(Paragraph words, int from, int to, boolean isLast) {
            int room = roomFrom(from);
            int length = words.lengthOf(from, to);
            int blanks = words.blanksIn(from, to);
            int first = FACTS * lineCount;
            ends[lineCount] = to;
            facts[first + LENGTH] = length;
            facts[first + SLACK] = Math.max(0, room - length);
            facts[first + BADNESS] = badnessOf(length, room, blanks, isLast);
            facts[first + BLANKS] = blanks;
            facts[first + HYPHEN] = words.isHyphen(to) ? 1 : 0;
            facts[first + ROOM] = room;
        }
    }
}
