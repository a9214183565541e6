/**
 * Words of mail's texts: marks of a page taken off, quotations and what is signed told apart,
 * words cut, made small, and brought to their stems, each with its place.
 */
public final class MailWords {
    public static final int NONE = -1;

    private static final int MOST_CHARACTERS = 1500;
    private static final int MOST_AT_ONCE = 8;
    private static final int MOST_LETTERS = 30;
    private static final int LINE_END = 10;
    private static final int SPACE = 32;

    private final Text text;
    private final PageReader reader;
    private final LineTable lineTable;
    private final TokenTable tokenTable;

    public MailWords() {
        text = new Text();
        reader = new PageReader(text);
        LineWalker walker = new LineWalker(text);
        lineTable = new LineTable(walker);
        tokenTable = new TokenTable(text, walker);
    }

    public int put(int many, int a, int b, int c, int d) {
        if (many < 0 || many > MOST_AT_ONCE) {
            return NONE;
        }
        for (int k = 0; k < many; k++) {
            int number = k < 2 ? a : k < 4 ? b : k < 6 ? c : d;
            text.add((k & 1) == 0 ? number >>> 16 : number & 0xFFFF);
        }
        return text.size();
    }

    public void clear() {
        text.shorten(0);
    }

    public int page() {
        reader.read();
        return text.size();
    }

    public int at(int k) {
        return text.get(k);
    }

    public int lines() {
        return lineTable.look();
    }

    public int line(int line, int what) {
        return lineTable.tell(line, what);
    }

    public int cut(boolean plain) {
        tokenTable.fill(plain);
        tokenTable.findStems();
        return tokenTable.count();
    }

    public int token(int token, int what) {
        return tokenTable.tell(token, what);
    }

    public int letter(int token, boolean stem, int k) {
        return tokenTable.character(token, stem, k);
    }

    public int different() {
        return tokenTable.stemKinds();
    }

    public int often(int token) {
        return tokenTable.timesOfStem(token);
    }

    /** What kinds of characters there are. */
    private static final class Kinds {
        static boolean isLatin(int c) {
            return c >= 'A' && c <= 'Z' || c >= 'a' && c <= 'z';
        }

        static boolean isDigit(int c) {
            return c >= '0' && c <= '9';
        }

        static boolean isBlank(int c) {
            return c == 9 || c == LINE_END || c == 13 || c == SPACE;
        }

        static boolean isLetter(int c) {
            if (c <= 687) {
                return c >= 192 && c != 215 && c != 247
                    || c >= 'A' && c <= 'Z' || c >= 'a' && c <= 'z';
            }
            return c >= 880 && c <= 1423 && c != 894 && c != 903 && (c < 1154 || c > 1161);
        }

        static boolean isLetterOrDigit(int c) {
            return isDigit(c) || isLetter(c);
        }

        static boolean isJoin(int c) {
            return c == '\'' || c == '.' || c == '_' || c == '-' || c == '@';
        }

        static int small(int c) {
            if (c < 256) {
                return c >= 'A' && c <= 'Z' || c >= 192 && c <= 222 && c != 215 ? c + 32 : c;
            }
            return c < 880 ? smallLatin(c) : c < 1024 ? smallGreek(c) : smallCyrillic(c);
        }

        private static int smallLatin(int c) {
            if (c <= 311 || c >= 330 && c <= 375) {
                return (c & 1) == 0 ? c + 1 : c;
            }
            if (c >= 313 && c <= 328 || c >= 377 && c <= 382) {
                return (c & 1) == 1 ? c + 1 : c;
            }
            return c == 376 ? 255 : c;
        }

        private static int smallGreek(int c) {
            if (c >= 913 && c <= 939) {
                return c == 930 ? c : c + 32;
            }
            if (c >= 904 && c <= 906) {
                return c + 37;
            }
            if (c == 910 || c == 911) {
                return c + 63;
            }
            return c == 902 ? 940 : c == 908 ? 972 : c;
        }

        private static int smallCyrillic(int c) {
            if (c <= 1039) {
                return c + 80;
            }
            if (c <= 1071) {
                return c + 32;
            }
            boolean paired = c >= 1120 && c <= 1153 || c >= 1162 && c <= 1215;
            return paired && (c & 1) == 0 ? c + 1 : c;
        }
    }

    /** The row of characters that all else reads. */
    private static final class Text {
        private final int[] characters = new int[MOST_CHARACTERS];
        private int size;

        int size() {
            return size;
        }

        int get(int k) {
            return k >= 0 && k < size ? characters[k] : NONE;
        }

        void add(int c) {
            if (size < characters.length) {
                characters[size] = c;
                size++;
            }
        }

        void set(int k, int c) {
            if (k >= 0 && k < size) {
                characters[k] = c;
            }
        }

        void shorten(int to) {
            if (to >= 0 && to < size) {
                size = to;
            }
        }

        boolean holds(int from, String word) {
            for (int k = 0; k < word.length(); k++) {
                if (get(from + k) != word.charAt(k)) {
                    return false;
                }
            }
            return true;
        }

        /** The word in small or great letters A .. Z. */
        boolean holdsInAnyCase(int from, String word) {
            for (int k = 0; k < word.length(); k++) {
                int c = get(from + k);
                if ((c >= 'A' && c <= 'Z' ? c + 32 : c) != word.charAt(k)) {
                    return false;
                }
            }
            return true;
        }
    }

    /**
     * Reads a text as a page. What it writes is never longer than what it has read, so it writes
     * over the front of the same row.
     */
    private static final class PageReader {
        private static final int UNKNOWN = 65533;

        private final Text text;
        private int written;
        private boolean within;

        PageReader(Text text) {
            this.text = text;
        }

        void read() {
            written = 0;
            within = false;
            int k = 0;
            while (k < text.size()) {
                int c = text.get(k);
                int behind = k + 1;
                if (c == '<' && Kinds.isLatin(text.get(k + 1))) {
                    behind = readTag(k + 1, false);
                } else if (text.holds(k, "</") && Kinds.isLatin(text.get(k + 2))) {
                    behind = readTag(k + 2, true);
                } else if (c == '<') {
                    behind = readMark(k);
                } else if (c == '&') {
                    behind = text.get(k + 1) == '#' ? readNumber(k) : readName(k);
                } else if (Kinds.isBlank(c)) {
                    writeBlank(c);
                } else {
                    write(c);
                }
                k = Math.max(k + 1, behind);
            }
            dropSpaces();
            text.shorten(written);
        }

        private int readMark(int k) {
            if (text.holds(k, "<!--")) {
                return behindNext("-->", k + 4);
            }
            if (text.get(k + 1) == '!' || text.get(k + 1) == '?') {
                return behindNext(">", k + 2);
            }
            write('<');
            return k + 1;
        }

        private int behindNext(String sign, int from) {
            for (int k = from; k < text.size(); k++) {
                if (text.holds(k, sign)) {
                    return k + sign.length();
                }
            }
            return text.size();
        }

        private int readTag(int name, boolean ends) {
            int nameEnd = behindName(name);
            int behind = behindTag(nameEnd);
            if (isNamed(name, nameEnd, "pre")) {
                // The breaks of pre itself are outside of it.
                within = within && !ends;
                writeBreak();
                within = !ends;
            } else if (isBreak(name, nameEnd)) {
                writeBreak();
            } else if (isNamed(name, nameEnd, "td") || isNamed(name, nameEnd, "th")) {
                writeBlank(SPACE);
            } else if (!ends) {
                return behindHidden(name, nameEnd, behind);
            }
            return behind;
        }

        private int behindName(int from) {
            int k = from;
            while (k < text.size() && (Kinds.isLatin(text.get(k)) || Kinds.isDigit(text.get(k)))) {
                k++;
            }
            return k;
        }

        /** A quote counts only behind a =, so that an apostrophe elsewhere does not eat the page. */
        private int behindTag(int from) {
            int quote = NONE;
            boolean assigned = false;
            for (int k = from; k < text.size(); k++) {
                int c = text.get(k);
                if (quote != NONE) {
                    quote = c == quote ? NONE : quote;
                } else if (c == '>') {
                    return k + 1;
                } else if (assigned && (c == '"' || c == '\'')) {
                    quote = c;
                    assigned = false;
                } else {
                    assigned = c == '=' || assigned && Kinds.isBlank(c);
                }
            }
            return text.size();
        }

        private boolean isNamed(int from, int to, String name) {
            return to - from == name.length() && text.holdsInAnyCase(from, name);
        }

        private boolean isBreak(int from, int to) {
            int level = text.get(from + 1);
            boolean heading = to - from == 2 && text.holdsInAnyCase(from, "h") && level >= '1' && level <= '6';
            return heading || isNamed(from, to, "p") || isNamed(from, to, "div") || isNamed(from, to, "br")
                || isNamed(from, to, "tr") || isNamed(from, to, "li") || isNamed(from, to, "ul")
                || isNamed(from, to, "ol") || isNamed(from, to, "table")
                || isNamed(from, to, "blockquote") || isNamed(from, to, "hr");
        }

        private int behindHidden(int from, int to, int behind) {
            if (isNamed(from, to, "script")) {
                return endingTag("script", behind);
            }
            if (isNamed(from, to, "style")) {
                return endingTag("style", behind);
            }
            return isNamed(from, to, "title") ? endingTag("title", behind) : behind;
        }

        private int endingTag(String name, int from) {
            for (int k = from; k < text.size(); k++) {
                if (text.get(k) == '<' && text.get(k + 1) == '/' && text.holdsInAnyCase(k + 2, name)
                    && !Kinds.isLetterOrDigit(text.get(k + 2 + name.length()))) {
                    return k;
                }
            }
            return text.size();
        }

        private int readNumber(int k) {
            boolean hexadecimal = text.get(k + 2) == 'x';
            int from = hexadecimal ? k + 3 : k + 2;
            int base = hexadecimal ? 16 : 10;
            int most = hexadecimal ? 6 : 7;
            int value = 0;
            int end = from;
            while (end < text.size() && worth(text.get(end), base) != NONE) {
                value = end - from < most ? value * base + worth(text.get(end), base) : value;
                end++;
            }
            if (end == from || end - from > most) {
                write('&');
                return k + 1;
            }
            boolean unknown = value == 0 || value > 65535 || value >= 55296 && value <= 57343;
            write(unknown ? UNKNOWN : value);
            return text.get(end) == ';' ? end + 1 : end;
        }

        private static int worth(int c, int base) {
            if (Kinds.isDigit(c)) {
                return c - '0';
            }
            if (base == 16 && c >= 'a' && c <= 'f') {
                return c - 'a' + 10;
            }
            return base == 16 && c >= 'A' && c <= 'F' ? c - 'A' + 10 : NONE;
        }

        /** With or without the ; no letter or digit follows: so the name is all that stand there. */
        private int readName(int k) {
            int end = k + 1;
            while (end < text.size() && Kinds.isLetterOrDigit(text.get(end))) {
                end++;
            }
            int value = entity(k + 1, end);
            if (value == NONE) {
                write('&');
                return k + 1;
            }
            write(value);
            return text.get(end) == ';' ? end + 1 : end;
        }

        private int entity(int from, int to) {
            switch (to - from) {
                case 2:
                    return text.holds(from, "lt") ? 60 : text.holds(from, "gt") ? 62 : NONE;
                case 3:
                    return text.holds(from, "amp") ? 38 : NONE;
                case 4:
                    return entityOfFour(from);
                case 5:
                    return text.holds(from, "szlig") ? 223 : NONE;
                case 6:
                    return text.holds(from, "eacute") ? 233 : NONE;
                default:
                    return NONE;
            }
        }

        private int entityOfFour(int from) {
            if (text.holds(from, "quot")) {
                return 34;
            }
            if (text.holds(from, "apos")) {
                return 39;
            }
            if (text.holds(from, "nbsp")) {
                return SPACE;
            }
            if (text.holds(from, "ouml")) {
                return 246;
            }
            if (text.holds(from, "auml")) {
                return 228;
            }
            if (text.holds(from, "uuml")) {
                return 252;
            }
            return text.holds(from, "euro") ? 8364 : text.holds(from, "copy") ? 169 : NONE;
        }

        private void write(int c) {
            text.set(written, c);
            written++;
        }

        private void writeBlank(int c) {
            if (within) {
                if (c != 13) {
                    write(c);
                }
            } else if (written > 0 && !lastIs(SPACE) && !lastIs(LINE_END)) {
                write(SPACE);
            }
        }

        private void writeBreak() {
            dropSpaces();
            if (written > 0 && !lastIs(LINE_END)) {
                write(LINE_END);
            }
        }

        private void dropSpaces() {
            while (!within && written > 0 && lastIs(SPACE)) {
                written--;
            }
        }

        private boolean lastIs(int c) {
            return text.get(written - 1) == c;
        }
    }

    /** Goes through the lines of a text and tells what each is. */
    private static final class LineWalker {
        private final Text text;
        private int begin;
        private int end;
        private int depth;
        private boolean signed;
        private boolean led;

        LineWalker(Text text) {
            this.text = text;
        }

        void start() {
            end = -1;
            signed = false;
        }

        boolean advance() {
            if (end + 1 >= text.size()) {
                return false;
            }
            begin = end + 1;
            end = begin;
            while (end < text.size() && text.get(end) != LINE_END) {
                end++;
            }
            depth = depthFrom(begin);
            signed = depth == 0 && (signed || beginsSigned());
            led = leads() && depthFrom(end + 1) > 0;
            return true;
        }

        int begin() {
            return begin;
        }

        int end() {
            return end;
        }

        int depth() {
            return depth;
        }

        boolean isSigned() {
            return signed;
        }

        boolean isLed() {
            return led;
        }

        boolean isPlain() {
            return depth == 0 && !signed && !led;
        }

        private int depthFrom(int from) {
            int marks = 0;
            for (int k = from; k < text.size(); k++) {
                if (text.get(k) == '>') {
                    marks++;
                } else if (text.get(k) != SPACE) {
                    break;
                }
            }
            return marks;
        }

        private boolean beginsSigned() {
            int length = end - begin;
            return length == 2 && text.holds(begin, "--") || length == 3 && text.holds(begin, "-- ");
        }

        private boolean leads() {
            return end > begin && text.get(end - 1) == ':'
                && (hasAt() || hasWord("wrote") || hasWord("schrieb"));
        }

        private boolean hasAt() {
            for (int k = begin; k < end; k++) {
                if (text.get(k) == '@') {
                    return true;
                }
            }
            return false;
        }

        private boolean hasWord(String word) {
            for (int k = begin; k + word.length() <= end; k++) {
                if (text.holds(k, word) && !Kinds.isLetterOrDigit(text.get(k - 1))
                    && !Kinds.isLetterOrDigit(text.get(k + word.length()))) {
                    return true;
                }
            }
            return false;
        }
    }

    /** What the latest look at the lines has found. */
    private static final class LineTable {
        private final LineWalker walker;
        // One more than there are lines: each line's length is told by where the next would begin.
        private final int[] begins = new int[MOST_CHARACTERS + 1];
        // DEPTH, SIGNED and LED share a number, to keep a new object small.
        private final int[] marks = new int[MOST_CHARACTERS];
        private int count;

        LineTable(LineWalker walker) {
            this.walker = walker;
        }

        int look() {
            count = 0;
            walker.start();
            while (count < marks.length && walker.advance()) {
                begins[count] = walker.begin();
                begins[count + 1] = walker.end() + 1;
                marks[count] = walker.depth() * 4 + (walker.isSigned() ? 2 : 0) + (walker.isLed() ? 1 : 0);
                count++;
            }
            return count;
        }

        int tell(int index, int what) {
            if (index < 0 || index >= count) {
                return NONE;
            }
            switch (what) {
                case 0:
                    return marks[index] >> 2;
                case 1:
                    return marks[index] >> 1 & 1;
                case 2:
                    return marks[index] & 1;
                case 3:
                    return begins[index];
                case 4:
                    return begins[index + 1] - 1 - begins[index];
                default:
                    return NONE;
            }
        }
    }

    /** The tokens of the latest cut, with their letters, which later changes of the text leave. */
    private static final class TokenTable {
        private static final int LAST_ROW_BELOW = 300;
        // 750 pieces with a sign between them fill the text; of the rows that begin below place
        // 300, at most 150 have the two pieces that an ADDRESS needs.
        private static final int MOST_TOKENS = 900;
        private static final int SLOTS = 128;

        private final Text text;
        private final LineWalker walker;
        private final Stemmer stemmer = new Stemmer();
        private final int[] begins = new int[MOST_TOKENS];
        private final int[] lengths = new int[MOST_TOKENS];
        private final int[] stemLengths = new int[MOST_TOKENS];
        private final int[] places = new int[MOST_TOKENS];
        private final boolean[] addresses = new boolean[MOST_TOKENS];
        // Letters stand where they stood in the text; a stem is never longer than its word.
        private final int[] smalls = new int[MOST_CHARACTERS];
        private final int[] stems = new int[MOST_CHARACTERS];
        private final int[] slots = new int[SLOTS];
        private final int[] nexts = new int[MOST_TOKENS];
        private int count;
        private int pieces;
        private int kinds;

        TokenTable(Text text, LineWalker walker) {
            this.text = text;
            this.walker = walker;
        }

        void fill(boolean plain) {
            count = 0;
            pieces = 0;
            for (int k = 0; k < text.size() && k < smalls.length; k++) {
                smalls[k] = Kinds.small(text.get(k));
            }
            if (!plain) {
                cutRows(0, text.size());
                return;
            }
            walker.start();
            for (int k = 0; k < MOST_CHARACTERS && walker.advance(); k++) {
                if (walker.isPlain()) {
                    cutRows(walker.begin(), walker.end());
                }
            }
        }

        /** Called once behind each fill. */
        void findStems() {
            kinds = 0;
            for (int slot = 0; slot < SLOTS; slot++) {
                slots[slot] = NONE;
            }
            for (int index = 0; index < count; index++) {
                if (addresses[index]) {
                    stemLengths[index] = lengths[index];
                } else {
                    stemLengths[index] = stemmer.stem(smalls, stems, begins[index], lengths[index]);
                    enterStem(index);
                }
            }
        }

        int count() {
            return count;
        }

        int tell(int index, int what) {
            if (!exists(index)) {
                return NONE;
            }
            switch (what) {
                case 0:
                    return places[index];
                case 1:
                    return lengths[index];
                case 2:
                    return stemLengths[index];
                case 3:
                    return addresses[index] ? 1 : 0;
                case 4:
                    return begins[index];
                default:
                    return NONE;
            }
        }

        int character(int index, boolean ofStem, int k) {
            if (!exists(index) || k < 0 || k >= (ofStem ? stemLengths[index] : lengths[index])) {
                return NONE;
            }
            return ofStem ? stemCharacter(index, k) : characterOf(smalls, begins[index] + k);
        }

        int stemKinds() {
            return kinds;
        }

        int timesOfStem(int index) {
            if (!exists(index)) {
                return 0;
            }
            int times = 0;
            for (int other = 0; other < count; other++) {
                if (!addresses[other] && haveSameStem(index, other)) {
                    times++;
                }
            }
            return times;
        }

        private boolean exists(int index) {
            return index >= 0 && index < count;
        }

        private int stemCharacter(int index, int k) {
            return characterOf(addresses[index] ? smalls : stems, begins[index] + k);
        }

        private static int characterOf(int[] row, int k) {
            return k >= 0 && k < row.length ? row[k] : NONE;
        }

        private void cutRows(int from, int to) {
            int k = from;
            while (k < to && pieces < LAST_ROW_BELOW) {
                int end = behindRow(k, to);
                if (end > k) {
                    addRow(k, end);
                }
                k = Math.max(k + 1, end);
            }
        }

        private int behindRow(int from, int to) {
            int end = from;
            for (int k = from; k < to; k++) {
                if (Kinds.isLetterOrDigit(text.get(k))) {
                    end = k + 1;
                } else if (k > end || k == from || !Kinds.isJoin(text.get(k))) {
                    break;
                }
            }
            return end;
        }

        private void addRow(int begin, int end) {
            int place = pieces;
            int from = begin;
            boolean address = isAddress(begin, end);
            for (int k = begin; k <= end; k++) {
                if (k == end || Kinds.isJoin(text.get(k))) {
                    addToken(from, k, pieces, false);
                    pieces++;
                    if (address && from == begin) {
                        addToken(begin, end, place, true);
                    }
                    from = k + 1;
                }
            }
        }

        private boolean isAddress(int begin, int end) {
            for (int k = begin; k < end; k++) {
                int c = text.get(k);
                if (c == '@' || c == '.' && Kinds.isLetter(text.get(k - 1)) && Kinds.isLetter(text.get(k + 1))) {
                    return true;
                }
            }
            return false;
        }

        private void addToken(int begin, int end, int place, boolean address) {
            if (count < MOST_TOKENS) {
                begins[count] = begin;
                lengths[count] = Math.min(end - begin, MOST_LETTERS);
                places[count] = place;
                addresses[count] = address;
                count++;
            }
        }

        /** Stems alike share a slot, so that counting them need not compare each with all. */
        private void enterStem(int index) {
            int slot = slotOf(index);
            int other = slots[slot];
            for (int k = 0; k < count && exists(other); k++) {
                if (haveSameStem(index, other)) {
                    return;
                }
                other = nexts[other];
            }
            nexts[index] = slots[slot];
            slots[slot] = index;
            kinds++;
        }

        private int slotOf(int index) {
            int sum = 0;
            for (int k = 0; k < stemLengths[index]; k++) {
                sum = sum * 31 + stemCharacter(index, k);
            }
            return sum & SLOTS - 1;
        }

        private boolean haveSameStem(int one, int other) {
            if (stemLengths[one] != stemLengths[other]) {
                return false;
            }
            for (int k = 0; k < stemLengths[one]; k++) {
                if (stemCharacter(one, k) != stemCharacter(other, k)) {
                    return false;
                }
            }
            return true;
        }
    }

    /** Brings an English word to its stem. */
    private static final class Stemmer {
        private static final int LEAST_LETTERS = 3;

        private final int[] word = new int[MOST_LETTERS];
        private final boolean[] vowels = new boolean[MOST_LETTERS];
        private int size;

        /** Writes the stem where the word stands, into the other row: how long it is. */
        int stem(int[] from, int[] to, int begin, int length) {
            size = 0;
            boolean english = length >= LEAST_LETTERS;
            for (int k = begin; k >= 0 && k < begin + length && k < from.length; k++) {
                english = english && from[k] >= 'a' && from[k] <= 'z';
                append(from[k]);
            }
            if (english) {
                endOfMany();
                endOfPast();
                endOfY();
                secondStep();
                thirdStep();
                fourthStep();
                fifthStep();
            }
            for (int k = 0; k < size && begin >= 0 && begin + k < to.length; k++) {
                to[begin + k] = word[k];
            }
            return size;
        }

        /** What a letter is hangs only on what is ahead of it, so it is told when it comes. */
        private void append(int c) {
            if (size < word.length) {
                boolean vowel = c == 'a' || c == 'e' || c == 'i' || c == 'o' || c == 'u';
                word[size] = c;
                vowels[size] = vowel || c == 'y' && size > 0 && !vowels[size - 1];
                size++;
            }
        }

        private void become(int ahead, String ending) {
            size = Math.max(0, Math.min(ahead, size));
            for (int k = 0; k < ending.length(); k++) {
                append(ending.charAt(k));
            }
        }

        private boolean ends(String ending) {
            int ahead = size - ending.length();
            if (ahead < 0) {
                return false;
            }
            for (int k = ending.length() - 1; k >= 0; k--) {
                if (word[ahead + k] != ending.charAt(k)) {
                    return false;
                }
            }
            return true;
        }

        private boolean isLetter(int k, int c) {
            return k >= 0 && k < size && word[k] == c;
        }

        private boolean isVowel(int k) {
            return k >= 0 && k < size && vowels[k];
        }

        /** M of the letters ahead. */
        private int measure(int ahead) {
            int many = 0;
            for (int k = 1; k < ahead; k++) {
                if (isVowel(k - 1) && !isVowel(k)) {
                    many++;
                }
            }
            return many;
        }

        private boolean hasVowel(int ahead) {
            for (int k = 0; k < ahead; k++) {
                if (isVowel(k)) {
                    return true;
                }
            }
            return false;
        }

        private boolean isCvc(int ahead) {
            int last = ahead - 1;
            return ahead >= 3 && !isVowel(last - 2) && isVowel(last - 1) && !isVowel(last)
                && !isLetter(last, 'w') && !isLetter(last, 'x') && !isLetter(last, 'y');
        }

        private boolean hasTwoAlike() {
            return size >= 2 && word[size - 1] == word[size - 2] && !isVowel(size - 1);
        }

        /** Whether it has the ending: then no shorter one counts, even if this one does not fit. */
        private boolean tries(String ending, String instead, int above) {
            if (!ends(ending)) {
                return false;
            }
            int ahead = size - ending.length();
            if (measure(ahead) > above) {
                become(ahead, instead);
            }
            return true;
        }

        private void endOfMany() {
            if (ends("sses") || ends("ies")) {
                become(size - 2, "");
            } else if (ends("s") && !ends("ss")) {
                become(size - 1, "");
            }
        }

        private void endOfPast() {
            if (tries("eed", "ee", 0)) {
                return;
            }
            int ahead = ends("ed") ? size - 2 : ends("ing") ? size - 3 : 0;
            if (!hasVowel(ahead)) {
                return;
            }
            become(ahead, "");
            if (ends("at") || ends("bl") || ends("iz")) {
                append('e');
            } else if (hasTwoAlike()) {
                if (!ends("l") && !ends("s") && !ends("z")) {
                    become(size - 1, "");
                }
            } else if (measure(size) == 1 && isCvc(size)) {
                append('e');
            }
        }

        private void endOfY() {
            if (ends("y") && hasVowel(size - 1)) {
                become(size - 1, "i");
            }
        }

        // In the next three steps an ending stands ahead of those that it ends with; they tell
        // whether the word has one.

        private boolean secondStep() {
            return tries("ational", "ate", 0) || tries("tional", "tion", 0)
                || tries("enci", "ence", 0) || tries("anci", "ance", 0) || tries("izer", "ize", 0)
                || tries("abli", "able", 0) || tries("alli", "al", 0) || tries("entli", "ent", 0)
                || tries("eli", "e", 0) || tries("ousli", "ous", 0) || tries("ization", "ize", 0)
                || tries("ation", "ate", 0) || tries("ator", "ate", 0) || tries("alism", "al", 0)
                || tries("iveness", "ive", 0) || tries("fulness", "ful", 0)
                || tries("ousness", "ous", 0) || tries("aliti", "al", 0) || tries("iviti", "ive", 0)
                || tries("biliti", "ble", 0);
        }

        private boolean thirdStep() {
            return tries("icate", "ic", 0) || tries("iciti", "ic", 0) || tries("ical", "ic", 0)
                || tries("ative", "", 0) || tries("ful", "", 0) || tries("ness", "", 0)
                || tries("alize", "al", 0);
        }

        private boolean fourthStep() {
            if (ends("ion") && !isLetter(size - 4, 's') && !isLetter(size - 4, 't')) {
                return true;
            }
            return tries("ion", "", 1) || tries("al", "", 1) || tries("ance", "", 1) || tries("ence", "", 1)
                || tries("er", "", 1) || tries("ic", "", 1) || tries("able", "", 1)
                || tries("ible", "", 1) || tries("ant", "", 1) || tries("ement", "", 1)
                || tries("ment", "", 1) || tries("ent", "", 1) || tries("ou", "", 1)
                || tries("ism", "", 1) || tries("ate", "", 1) || tries("iti", "", 1)
                || tries("ous", "", 1) || tries("ive", "", 1) || tries("ize", "", 1);
        }

        private void fifthStep() {
            int ahead = size - 1;
            if (ends("e") && (measure(ahead) > 1 || measure(ahead) == 1 && !isCvc(ahead))) {
                become(ahead, "");
            }
            if (ends("ll") && measure(size - 1) > 1) {
                become(size - 1, "");
            }
        }
    }
}
