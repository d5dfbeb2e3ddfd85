/**
 * A desk for texts whose blocks are told by how far in they stand. The words in capitals in the
 * comments are those of the document.
 */
public final class LayoutDesk {
    public static final int NONE = -1, BAD = -2, FULL = -3, NOT = -4;

    private static final int MOST_TYPED = 16;
    private static final int MOST_SPACES = 80;
    private static final int MOST_READS = 30;
    private static final int FAULT_ANSWER = -100;
    private static final int LEAST_INT = -2147483648;

    private final Text text;
    private final Lexemes lexemes;
    private final Feed feed;
    private final Parser parser;
    private final Writer writer;
    private Tree tree;
    // A read() builds here, so that a FAULT leaves THE TREE as it was.
    private Tree spare;
    private int reads;
    private int latestFault;

    public LayoutDesk() {
        text = new Text();
        lexemes = new Lexemes(text);
        feed = new Feed(lexemes);
        tree = new Tree();
        spare = new Tree();
        parser = new Parser(lexemes, feed, spare);
        writer = new Writer(tree);
    }

    public int type(long a, long b, int n) {
        if (n < 0 || n > MOST_TYPED) {
            return BAD;
        }
        if (!text.hasRoom(n)) {
            return FULL;
        }
        for (int k = 0; k < n; k++) {
            long eight = k < 8 ? a : b;
            text.append((int) (eight >>> (56 - 8 * (k & 7))) & 255);
        }
        return text.length();
    }

    public int space(boolean line, int n) {
        if (n < 0 || n > MOST_SPACES) {
            return BAD;
        }
        if (!text.hasRoom(line ? n + 1 : n)) {
            return FULL;
        }
        if (line) {
            text.append('\n');
        }
        for (int k = 0; k < n; k++) {
            text.append(' ');
        }
        return text.length();
    }

    public int clear() {
        int had = text.length();
        text.empty();
        return had;
    }

    public int at(int i) {
        return text.byteAt(i);
    }

    public int alter(int i, int v) {
        int was = text.byteAt(i);
        if (was == NONE || v < 0 || v > 255) {
            return BAD;
        }
        text.set(i, v);
        return was;
    }

    public int read() {
        if (reads >= MOST_READS) {
            return FULL;
        }
        reads++;
        feed.empty();
        lexemes.scan();
        latestFault = lexemes.faultNumber();
        if (latestFault != 0) {
            return FAULT_ANSWER - lexemes.faultPlace();
        }
        parser.parse(spare);
        latestFault = parser.faultNumber();
        if (latestFault != 0) {
            return FAULT_ANSWER - parser.faultPlace();
        }
        spare.keep(text);
        Tree former = tree;
        tree = spare;
        spare = former;
        return tree.size();
    }

    public int fault() {
        return latestFault;
    }

    public int lexeme(int i, int what) {
        if (what < 0 || what > 5) {
            return BAD;
        }
        if (i < 0 || i >= lexemes.size()) {
            return NONE;
        }
        switch (what) {
            case 0:
                return lexemes.placeOf(i);
            case 1:
                return lexemes.columnOf(i);
            case 2:
                return lexemes.kindOf(i);
            case 3:
                return lexemes.lengthOf(i);
            case 4:
                return lexemes.openingOf(i);
            default:
                return lexemes.indentOf(i);
        }
    }

    public int token(int i) {
        return feed.tokenAt(i);
    }

    public int count(int what) {
        switch (what) {
            case 0:
                return text.length();
            case 1:
                return lexemes.size();
            case 2:
                return feed.size();
            case 3:
                return tree.size();
            case 4:
                return reads;
            default:
                return BAD;
        }
    }

    public int node(int i, int what) {
        if (!tree.has(i)) {
            return LEAST_INT;
        }
        switch (what) {
            case 0:
                return tree.kindOf(i);
            case 1:
                return tree.parentOf(i);
            case 2:
                return tree.sizeOf(i);
            case 3:
                return tree.numberOf(i);
            case 4:
                return tree.nameLengthOf(i);
            default:
                return LEAST_INT;
        }
    }

    public int letter(int i, int k) {
        return tree.has(i) ? tree.nameByte(i, k) : BAD;
    }

    public int child(int i, int k) {
        return tree.has(i) ? tree.part(i, k) : BAD;
    }

    public int write(int form) {
        if (form != 0 && form != 1) {
            return BAD;
        }
        if (tree.size() == 0) {
            return NOT;
        }
        writer.compose(tree, form == 1);
        return writer.handOver(text) ? text.length() : FULL;
    }

    public long digest() {
        long h = 17;
        for (int i = 0; i < tree.size(); i++) {
            h = 31 * h + tree.kindOf(i);
            h = 31 * h + tree.parentOf(i);
            h = 31 * h + tree.sizeOf(i);
            h = 31 * h + tree.numberOf(i);
            int length = tree.nameLengthOf(i);
            h = 31 * h + length;
            for (int k = 0; k < length; k++) {
                h = 31 * h + tree.nameByte(i, k);
            }
        }
        return h;
    }

    /** THE TEXT: a row of bytes, each held as a char of 0 to 255. */
    private static final class Text {
        static final int MOST = 3000;

        private final char[] bytes;
        private int length;

        Text() {
            bytes = new char[MOST];
        }

        int length() {
            return length;
        }

        boolean hasRoom(int more) {
            return more <= MOST - length;
        }

        int byteAt(int place) {
            return place >= 0 && place < length ? bytes[place] : NONE;
        }

        void append(int value) {
            if (length < MOST) {
                bytes[length] = (char) (value & 255);
                length++;
            }
        }

        void set(int place, int value) {
            if (place >= 0 && place < length) {
                bytes[place] = (char) (value & 255);
            }
        }

        void empty() {
            length = 0;
        }

        void copyTo(char[] row) {
            System.arraycopy(bytes, 0, row, 0, Math.min(length, row.length));
        }

        void become(char[] row, int many) {
            length = Math.max(0, Math.min(many, Math.min(MOST, row.length)));
            System.arraycopy(row, 0, bytes, 0, length);
        }
    }

    /** What a LEXEME is to the grammar; the first four are the kinds of the same numbers. */
    private static final class Sort {
        static final int NAME = 0, CON = 1, NUMBER = 2, OPERATOR = 3;
        static final int ROUND_OPEN = 4, ROUND_CLOSE = 5, SQUARE_OPEN = 6, SQUARE_CLOSE = 7;
        static final int COMMA = 8, SEMICOLON = 9, BRACE_OPEN = 10, BRACE_CLOSE = 11;
        static final int BACKSLASH = 12, EQUALS = 13, ARROW = 14, TAKES = 15;
        static final int LET = 16, IN = 17, WHERE = 18, DO = 19, OF = 20;
        static final int CASE = 21, IF = 22, THEN = 23, ELSE = 24;
        static final int END = 25;
        // A } of THE TEXT whose CONTEXT is not 0: it can stand nowhere.
        static final int STRAY_CLOSE = 26;

        static int kindOf(int sort) {
            if (sort <= OPERATOR) {
                return sort;
            }
            return sort < LET ? 4 : 5;
        }

        static boolean opensBlock(int sort) {
            return sort == LET || sort == WHERE || sort == DO || sort == OF;
        }

        static boolean beginsPattern(int sort) {
            return sort == NAME || sort == CON || sort == NUMBER || sort == ROUND_OPEN;
        }

        static boolean beginsAtom(int sort) {
            return beginsPattern(sort) || sort == SQUARE_OPEN;
        }

        static boolean beginsExpression(int sort) {
            return beginsAtom(sort) || sort == BACKSLASH || sort == LET || sort == IF
                    || sort == CASE || sort == DO;
        }
    }

    /** The KINDS of NODES. */
    private static final class Kind {
        static final int PROGRAM = 0, DECLARATION = 1, NAME = 2, CON = 3, NUMBER = 4;
        static final int OPERATOR = 5, CHAIN = 6, APPLIED = 7, BRACKETS = 8, TUPLE = 9;
        static final int LIST = 10, LAMBDA = 11, LET = 12, IF = 13, CASE = 14, DO = 15;
        static final int BLOCK = 16, ALTERNATIVE = 17, TAKING = 18, LETTING = 19;

        static int ofLeaf(int sort) {
            return sort == Sort.NAME ? NAME : sort == Sort.CON ? CON : NUMBER;
        }

        static int ofOperand(int sort) {
            switch (sort) {
                case Sort.BACKSLASH:
                    return LAMBDA;
                case Sort.LET:
                    return LET;
                case Sort.IF:
                    return IF;
                case Sort.CASE:
                    return CASE;
                default:
                    return DO;
            }
        }

        static boolean isNamed(int kind) {
            return kind == DECLARATION || kind == NAME || kind == CON || kind == OPERATOR;
        }
    }

    /** The LEXEMES of THE TEXT, up to the first FAULT of section 1. */
    private static final class Lexemes {
        static final int MOST = 800;
        private static final int MOST_NAME = 12, MOST_FIGURES = 6, MOST_OPERATOR = 3;
        private static final int MOST_COMMENTS = 6;
        private static final String OPERATOR_BYTES = "+-*/<>=:!&|.#";

        private final Text text;
        private final int[] places;
        private final int[] columns;
        private final int[] sorts;
        private final int[] lengths;
        private final int[] openings;
        private final int[] indents;
        private int size;
        private int faultNumber;
        private int faultPlace;
        private int endOpening;
        private int place;
        private int lineStart;
        private boolean lineHasLexeme;

        Lexemes(Text source) {
            text = source;
            places = new int[MOST];
            columns = new int[MOST];
            sorts = new int[MOST];
            lengths = new int[MOST];
            openings = new int[MOST];
            indents = new int[MOST];
        }

        int size() {
            return size;
        }

        int faultNumber() {
            return faultNumber;
        }

        int faultPlace() {
            return faultPlace;
        }

        /** The place of LEXEME i, or of the end, where there is none. */
        int placeOf(int i) {
            return i >= 0 && i < size ? places[i] : text.length();
        }

        int columnOf(int i) {
            return i >= 0 && i < size ? columns[i] : NONE;
        }

        int sortOf(int i) {
            return i >= 0 && i < size ? sorts[i] : Sort.END;
        }

        int kindOf(int i) {
            return Sort.kindOf(sortOf(i));
        }

        int lengthOf(int i) {
            return i >= 0 && i < size ? lengths[i] : 0;
        }

        /** The OPENING of LEXEME i, or of the end, where there is none. */
        int openingOf(int i) {
            return i >= 0 && i < size ? openings[i] : endOpening;
        }

        int indentOf(int i) {
            return i >= 0 && i < size ? indents[i] : NONE;
        }

        void scan() {
            size = 0;
            faultNumber = 0;
            faultPlace = 0;
            place = 0;
            lineStart = 0;
            lineHasLexeme = false;
            int end = text.length();
            for (int turn = 0; turn < end && place < end && faultNumber == 0; turn++) {
                goOn(text.byteAt(place));
            }
            endOpening = isBlockDue() ? 0 : NONE;
        }

        /** Whether a block begins with what comes next, if that is not {. */
        private boolean isBlockDue() {
            return size == 0 || Sort.opensBlock(sortOf(size - 1));
        }

        private void goOn(int value) {
            if (value == '\n') {
                endLine(place);
                place++;
            } else if (value == ' ') {
                place++;
            } else if (value == '{' && text.byteAt(place + 1) == '-') {
                passNestedComment();
            } else if (isLineComment()) {
                passLineComment();
            } else {
                takeLexeme(value);
            }
        }

        private void endLine(int lineEnd) {
            lineStart = lineEnd + 1;
            lineHasLexeme = false;
        }

        private boolean isLineComment() {
            int dashes = 0;
            int end = text.length();
            for (int p = place; p < end && text.byteAt(p) == '-'; p++) {
                dashes++;
            }
            return dashes >= 2 && !isOperatorByte(text.byteAt(place + dashes));
        }

        private void passLineComment() {
            int end = text.length();
            int p = place;
            while (p < end && text.byteAt(p) != '\n') {
                p++;
            }
            place = p;
        }

        private void passNestedComment() {
            int end = text.length();
            int depth = 0;
            for (int p = place; p < end; p++) {
                int value = text.byteAt(p);
                int next = text.byteAt(p + 1);
                if (value == '\n') {
                    endLine(p);
                } else if (value == '{' && next == '-') {
                    depth++;
                    p++;
                } else if (value == '-' && next == '}') {
                    depth--;
                    p++;
                }
                if (depth > MOST_COMMENTS) {
                    break;
                }
                if (depth == 0) {
                    place = p + 1;
                    return;
                }
            }
            refuse(3);
        }

        private void takeLexeme(int value) {
            if (isSmall(value)) {
                int length = nameLength();
                add(length, MOST_NAME, wordSort(length));
            } else if (isCapital(value)) {
                add(nameLength(), MOST_NAME, Sort.CON);
            } else if (isFigure(value)) {
                add(numberLength(), MOST_FIGURES, Sort.NUMBER);
            } else if (isOperatorByte(value)) {
                int length = operatorLength();
                add(length, MOST_OPERATOR, operatorSort(length));
            } else {
                int sort = signSort(value);
                if (sort == NONE) {
                    refuse(1);
                } else {
                    add(1, 1, sort);
                }
            }
        }

        private void add(int length, int most, int sort) {
            if (length > most) {
                refuse(2);
            } else if (size >= MOST) {
                refuse(5);
            } else {
                int column = place - lineStart + 1;
                boolean opens = sort != Sort.BRACE_OPEN && isBlockDue();
                places[size] = place;
                columns[size] = column;
                sorts[size] = sort;
                lengths[size] = length;
                openings[size] = opens ? column : NONE;
                indents[size] = !opens && !lineHasLexeme ? column : NONE;
                lineHasLexeme = true;
                size++;
                place += length;
            }
        }

        private void refuse(int number) {
            faultNumber = number;
            faultPlace = place;
        }

        private int nameLength() {
            int end = text.length();
            int p = place;
            while (p < end && isNameByte(text.byteAt(p))) {
                p++;
            }
            return p - place;
        }

        private int numberLength() {
            int end = text.length();
            int p = place;
            while (p < end && isFigure(text.byteAt(p))) {
                p++;
            }
            return p - place;
        }

        private int operatorLength() {
            int end = text.length();
            int p = place;
            while (p < end && isOperatorByte(text.byteAt(p))) {
                p++;
            }
            return p - place;
        }

        private int wordSort(int length) {
            if (spells("let", length)) {
                return Sort.LET;
            }
            if (spells("in", length)) {
                return Sort.IN;
            }
            if (spells("where", length)) {
                return Sort.WHERE;
            }
            if (spells("do", length)) {
                return Sort.DO;
            }
            if (spells("of", length)) {
                return Sort.OF;
            }
            if (spells("case", length)) {
                return Sort.CASE;
            }
            if (spells("if", length)) {
                return Sort.IF;
            }
            if (spells("then", length)) {
                return Sort.THEN;
            }
            return spells("else", length) ? Sort.ELSE : Sort.NAME;
        }

        private int operatorSort(int length) {
            if (spells("=", length)) {
                return Sort.EQUALS;
            }
            if (spells("->", length)) {
                return Sort.ARROW;
            }
            return spells("<-", length) ? Sort.TAKES : Sort.OPERATOR;
        }

        private boolean spells(String word, int length) {
            if (word.length() != length) {
                return false;
            }
            for (int k = 0; k < length; k++) {
                if (text.byteAt(place + k) != word.charAt(k)) {
                    return false;
                }
            }
            return true;
        }

        private static int signSort(int value) {
            switch (value) {
                case '(':
                    return Sort.ROUND_OPEN;
                case ')':
                    return Sort.ROUND_CLOSE;
                case '[':
                    return Sort.SQUARE_OPEN;
                case ']':
                    return Sort.SQUARE_CLOSE;
                case ',':
                    return Sort.COMMA;
                case ';':
                    return Sort.SEMICOLON;
                case '{':
                    return Sort.BRACE_OPEN;
                case '}':
                    return Sort.BRACE_CLOSE;
                case '\\':
                    return Sort.BACKSLASH;
                default:
                    return NONE;
            }
        }

        private static boolean isSmall(int value) {
            return value >= 'a' && value <= 'z' || value == '_';
        }

        private static boolean isCapital(int value) {
            return value >= 'A' && value <= 'Z';
        }

        private static boolean isFigure(int value) {
            return value >= '0' && value <= '9';
        }

        private static boolean isNameByte(int value) {
            return isSmall(value) || isCapital(value) || isFigure(value) || value == '\'';
        }

        private static boolean isOperatorByte(int value) {
            return value > ' ' && value < 127 && OPERATOR_BYTES.indexOf((char) value) >= 0;
        }
    }

    /**
     * THE RULE of section 2: it holds the CONTEXTS, tells which TOKEN comes next, and keeps those
     * that were taken. What can stand is for the Parser to say.
     */
    private static final class Feed {
        private static final int OPEN_PUT_IN = -10, PART_PUT_IN = -11, CLOSE_PUT_IN = -12;
        private static final int CLOSE_BY_ERROR = -13;
        // What is still to come ahead of the LEXEME at hand: nothing, what its INDENT puts in, the
        // { of its OPENING, or the } of an OPENING that was not further in.
        private static final int PLAIN = 0, INDENTED = 1, OPENING = 2, EMPTY_BLOCK = 3;
        // A LEXEME may have a { and a } put in for its block and a ; ahead of it; so may the end.
        private static final int MOST = 4 * (Lexemes.MOST + 1);

        private final Lexemes lexemes;
        private final int[] tokens;
        private final int[] contexts;
        private int size;
        private int depth;
        // The CONTEXT on top; NONE, which is below all of them, if there is none.
        private int top;
        private int position;
        private int phase;
        private int column;

        Feed(Lexemes source) {
            lexemes = source;
            tokens = new int[MOST];
            contexts = new int[Openings.MOST_OPEN];
        }

        int size() {
            return size;
        }

        int position() {
            return position;
        }

        int tokenAt(int i) {
            return i >= 0 && i < size ? tokens[i] : NONE;
        }

        void empty() {
            size = 0;
        }

        void cut(int many) {
            size = Math.max(0, Math.min(size, many));
        }

        void start() {
            size = 0;
            depth = 0;
            top = NONE;
            position = 0;
            meetLexeme();
        }

        /** The Sort of the TOKEN that comes next, put in or not. */
        int sort() {
            switch (phase) {
                case OPENING:
                    return Sort.BRACE_OPEN;
                case EMPTY_BLOCK:
                    return Sort.BRACE_CLOSE;
                case INDENTED:
                    return column == top ? Sort.SEMICOLON : Sort.BRACE_CLOSE;
                default:
                    return plainSort();
            }
        }

        void take() {
            switch (phase) {
                case OPENING:
                    takeOpening();
                    break;
                case EMPTY_BLOCK:
                    keep(CLOSE_PUT_IN);
                    phase = INDENTED;
                    passIndent();
                    break;
                case INDENTED:
                    takeIndent();
                    break;
                default:
                    takePlain();
                    break;
            }
        }

        /** parse-error(t), once the Parser knows that } could stand: whether it was put in. */
        boolean closeByError() {
            int sort = sort();
            if (phase != PLAIN || position >= lexemes.size() || top <= 0
                    || sort == Sort.BRACE_OPEN || sort == Sort.STRAY_CLOSE) {
                return false;
            }
            keep(CLOSE_BY_ERROR);
            leaveContext();
            return true;
        }

        /** Whether ; comes next and the TOKEN behind it is the word. */
        boolean isPartAhead(int word) {
            if (sort() != Sort.SEMICOLON) {
                return false;
            }
            if (phase == INDENTED) {
                return lexemes.sortOf(position) == word;
            }
            int indent = lexemes.indentOf(position + 1);
            return lexemes.sortOf(position + 1) == word && (indent == NONE || indent > top);
        }

        private int plainSort() {
            if (position >= lexemes.size()) {
                return top > 0 ? Sort.BRACE_CLOSE : Sort.END;
            }
            int sort = lexemes.sortOf(position);
            return sort == Sort.BRACE_CLOSE && top != 0 ? Sort.STRAY_CLOSE : sort;
        }

        private void meetLexeme() {
            int opening = lexemes.openingOf(position);
            int indent = lexemes.indentOf(position);
            if (opening != NONE) {
                phase = OPENING;
                column = opening;
            } else {
                phase = indent != NONE && indent <= top ? INDENTED : PLAIN;
                column = indent;
            }
        }

        private void passIndent() {
            if (column > top) {
                phase = PLAIN;
            }
        }

        private void takeOpening() {
            keep(OPEN_PUT_IN);
            if (column > Math.max(0, top)) {
                enterContext(column);
                phase = PLAIN;
            } else {
                phase = EMPTY_BLOCK;
            }
        }

        private void takeIndent() {
            if (column == top) {
                keep(PART_PUT_IN);
                phase = PLAIN;
            } else {
                keep(CLOSE_PUT_IN);
                leaveContext();
                passIndent();
            }
        }

        private void takePlain() {
            if (position >= lexemes.size()) {
                keep(CLOSE_PUT_IN);
                leaveContext();
                return;
            }
            int sort = lexemes.sortOf(position);
            if (sort == Sort.BRACE_OPEN) {
                enterContext(0);
            } else if (sort == Sort.BRACE_CLOSE) {
                leaveContext();
            }
            keep(position);
            position++;
            meetLexeme();
        }

        private void keep(int token) {
            if (size < MOST) {
                tokens[size] = token;
                size++;
            }
        }

        private void enterContext(int context) {
            if (depth < contexts.length) {
                contexts[depth] = context;
                depth++;
                top = context;
            }
        }

        private void leaveContext() {
            if (depth > 0) {
                depth--;
            }
            top = depth > 0 && depth <= contexts.length ? contexts[depth - 1] : NONE;
        }
    }

    /**
     * How far within one another things were opened, and where. A let in a step turns out to be an
     * operand only when its in comes; then all that was opened in it is one further in.
     */
    private static final class Openings {
        static final int MOST_OPEN = 30;
        private static final int MOST = 2 * (Lexemes.MOST + 1);

        private final int[] depths;
        private final int[] tokens;
        private final int[] positions;
        private int size;

        Openings() {
            depths = new int[MOST];
            tokens = new int[MOST];
            positions = new int[MOST];
        }

        int size() {
            return size;
        }

        void empty() {
            size = 0;
        }

        void add(int depth, int token, int position) {
            if (size < MOST) {
                depths[size] = depth;
                tokens[size] = token;
                positions[size] = position;
                size++;
            }
        }

        /** All from the first on go one further in: the first that is too far in then; NONE. */
        int deepen(int first) {
            for (int i = Math.max(0, first); i < size; i++) {
                depths[i]++;
                if (depths[i] > MOST_OPEN) {
                    return i;
                }
            }
            return NONE;
        }

        int tokenOf(int i) {
            return i >= 0 && i < size ? tokens[i] : 0;
        }

        int positionOf(int i) {
            return i >= 0 && i < size ? positions[i] : 0;
        }
    }

    /**
     * The grammar of section 2, from the left, with the TOKEN at hand alone. Its methods answer
     * whether all went well; the argument open tells how many are open around.
     */
    private static final class Parser {
        private static final int DECLARATIONS = 0, CASES = 1, STEPS = 2;
        // Above the TOKENS that there can be: each turn of a loop takes one.
        private static final int MOST_TURNS = 4000;

        private final Lexemes lexemes;
        private final Feed feed;
        private final Openings openings;
        private Tree tree;
        private int faultNumber;
        private int faultPlace;

        Parser(Lexemes source, Feed tokens, Tree target) {
            lexemes = source;
            feed = tokens;
            openings = new Openings();
            tree = target;
        }

        int faultNumber() {
            return faultNumber;
        }

        int faultPlace() {
            return faultPlace;
        }

        void parse(Tree target) {
            tree = target;
            tree.empty();
            openings.empty();
            faultNumber = 0;
            faultPlace = 0;
            feed.start();
            int start = tree.add(Kind.PROGRAM);
            if (parseBlock(DECLARATIONS, 0) && feed.sort() != Sort.END) {
                refuse(4);
            }
            tree.close(start);
        }

        private boolean refuse(int number) {
            faultNumber = number;
            faultPlace = lexemes.placeOf(feed.position());
            return false;
        }

        private boolean mayOpen(int open) {
            if (open >= Openings.MOST_OPEN) {
                return refuse(5);
            }
            openings.add(open + 1, feed.size(), feed.position());
            return true;
        }

        private boolean expect(int sort) {
            if (feed.sort() != sort) {
                return refuse(4);
            }
            feed.take();
            return true;
        }

        private void takeLeaf(int kind) {
            int position = feed.position();
            tree.addWritten(kind, lexemes.placeOf(position), lexemes.lengthOf(position));
            feed.take();
        }

        private boolean parseBlock(int what, int open) {
            if (!mayOpen(open) || !expect(Sort.BRACE_OPEN)) {
                return false;
            }
            boolean parted = true;
            for (int turn = 0; turn < MOST_TURNS; turn++) {
                int sort = feed.sort();
                if (sort == Sort.BRACE_CLOSE) {
                    feed.take();
                    return true;
                }
                if (sort == Sort.SEMICOLON) {
                    feed.take();
                    parted = true;
                } else if (parted && beginsThing(what, sort)) {
                    if (!parseThing(what, open + 1)) {
                        return false;
                    }
                    parted = false;
                } else {
                    return feed.closeByError() || refuse(4);
                }
            }
            return refuse(4);
        }

        private boolean parseBlockNode(int what, int open) {
            int start = tree.add(Kind.BLOCK);
            if (!parseBlock(what, open)) {
                return false;
            }
            tree.close(start);
            return true;
        }

        private static boolean beginsThing(int what, int sort) {
            switch (what) {
                case DECLARATIONS:
                    return sort == Sort.NAME;
                case CASES:
                    return Sort.beginsPattern(sort);
                default:
                    return Sort.beginsExpression(sort);
            }
        }

        private boolean parseThing(int what, int open) {
            switch (what) {
                case DECLARATIONS:
                    return parseDeclaration(open);
                case CASES:
                    return parseCase(open);
                default:
                    return feed.sort() == Sort.LET ? parseLetStep(open) : parseStep(open);
            }
        }

        private boolean parseDeclaration(int open) {
            int start = tree.size();
            takeLeaf(Kind.DECLARATION);
            for (int turn = 0; turn < MOST_TURNS && Sort.beginsPattern(feed.sort()); turn++) {
                if (!parsePattern(open)) {
                    return false;
                }
            }
            if (!expect(Sort.EQUALS) || !parseExpression(open) || !parseWhere(open)) {
                return false;
            }
            tree.close(start);
            return true;
        }

        private boolean parseCase(int open) {
            int start = tree.add(Kind.ALTERNATIVE);
            if (!parseWholePattern(open) || !expect(Sort.ARROW) || !parseExpression(open)
                    || !parseWhere(open)) {
                return false;
            }
            tree.close(start);
            return true;
        }

        private boolean parseWhere(int open) {
            if (feed.sort() != Sort.WHERE) {
                return true;
            }
            feed.take();
            return parseBlockNode(DECLARATIONS, open);
        }

        private boolean parseStep(int open) {
            int start = tree.size();
            if (!parseExpression(open)) {
                return false;
            }
            if (feed.sort() != Sort.TAKES || !tree.isWholePattern(start)) {
                return true;
            }
            tree.insert(start, Kind.TAKING);
            feed.take();
            if (!parseExpression(open)) {
                return false;
            }
            tree.close(start);
            return true;
        }

        private boolean parseLetStep(int open) {
            int start = tree.add(Kind.LETTING);
            int firstInside = openings.size();
            feed.take();
            if (!parseBlockNode(DECLARATIONS, open)) {
                return false;
            }
            if (feed.sort() == Sort.IN) {
                tree.setKind(start, Kind.LET);
                if (!deepen(firstInside)) {
                    return false;
                }
                feed.take();
                if (!parseExpression(open + 1)) {
                    return false;
                }
            }
            tree.close(start);
            return true;
        }

        private boolean deepen(int firstInside) {
            int tooFarIn = openings.deepen(firstInside);
            if (tooFarIn == NONE) {
                return true;
            }
            feed.cut(openings.tokenOf(tooFarIn));
            faultNumber = 5;
            faultPlace = lexemes.placeOf(openings.positionOf(tooFarIn));
            return false;
        }

        private boolean parseExpression(int open) {
            int start = tree.size();
            if (!parseOperand(open)) {
                return false;
            }
            if (feed.sort() != Sort.OPERATOR) {
                return true;
            }
            tree.insert(start, Kind.CHAIN);
            for (int turn = 0; turn < MOST_TURNS && feed.sort() == Sort.OPERATOR; turn++) {
                takeLeaf(Kind.OPERATOR);
                if (!parseOperand(open)) {
                    return false;
                }
            }
            tree.close(start);
            return true;
        }

        private boolean parseOperand(int open) {
            int sort = feed.sort();
            if (Sort.beginsAtom(sort)) {
                return parseAtoms(open);
            }
            if (!Sort.beginsExpression(sort)) {
                return refuse(4);
            }
            if (!mayOpen(open)) {
                return false;
            }
            int start = tree.add(Kind.ofOperand(sort));
            feed.take();
            if (!parseRest(sort, open + 1)) {
                return false;
            }
            tree.close(start);
            return true;
        }

        /** What comes behind the first TOKEN of an operand. */
        private boolean parseRest(int sort, int open) {
            switch (sort) {
                case Sort.BACKSLASH:
                    return parseLambda(open);
                case Sort.LET:
                    return parseBlockNode(DECLARATIONS, open) && expect(Sort.IN)
                            && parseExpression(open);
                case Sort.IF:
                    return parseExpression(open) && parseBranch(Sort.THEN, open)
                            && parseBranch(Sort.ELSE, open);
                case Sort.CASE:
                    return parseExpression(open) && expect(Sort.OF)
                            && parseBlockNode(CASES, open);
                default:
                    return parseBlockNode(STEPS, open);
            }
        }

        private boolean parseLambda(int open) {
            if (!parsePattern(open)) {
                return false;
            }
            for (int turn = 0; turn < MOST_TURNS && Sort.beginsPattern(feed.sort()); turn++) {
                if (!parsePattern(open)) {
                    return false;
                }
            }
            return expect(Sort.ARROW) && parseExpression(open);
        }

        private boolean parseBranch(int word, int open) {
            if (feed.isPartAhead(word)) {
                feed.take();
            }
            return expect(word) && parseExpression(open);
        }

        private boolean parseAtoms(int open) {
            int start = tree.size();
            if (!parseAtom(open)) {
                return false;
            }
            if (!Sort.beginsAtom(feed.sort())) {
                return true;
            }
            tree.insert(start, Kind.APPLIED);
            for (int turn = 0; turn < MOST_TURNS && Sort.beginsAtom(feed.sort()); turn++) {
                if (!parseAtom(open)) {
                    return false;
                }
            }
            tree.close(start);
            return true;
        }

        /** An ATOM, whose first TOKEN was looked at. */
        private boolean parseAtom(int open) {
            int sort = feed.sort();
            switch (sort) {
                case Sort.ROUND_OPEN:
                    return mayOpen(open) && parseRow(Kind.TUPLE, Sort.ROUND_CLOSE, open + 1);
                case Sort.SQUARE_OPEN:
                    return mayOpen(open) && parseRow(Kind.LIST, Sort.SQUARE_CLOSE, open + 1);
                default:
                    takeLeaf(Kind.ofLeaf(sort));
                    return true;
            }
        }

        private boolean parseRow(int kind, int closer, int open) {
            int start = tree.add(kind);
            feed.take();
            int parts = 0;
            boolean goesOn = feed.sort() != closer;
            for (int turn = 0; turn < MOST_TURNS && goesOn; turn++) {
                if (!parseExpression(open)) {
                    return false;
                }
                parts++;
                goesOn = feed.sort() == Sort.COMMA;
                if (goesOn) {
                    feed.take();
                }
            }
            if (!expect(closer)) {
                return false;
            }
            if (kind == Kind.TUPLE && parts == 1) {
                tree.setKind(start, Kind.BRACKETS);
            }
            tree.close(start);
            return true;
        }

        private boolean parsePattern(int open) {
            int sort = feed.sort();
            if (!Sort.beginsPattern(sort)) {
                return refuse(4);
            }
            if (sort != Sort.ROUND_OPEN) {
                takeLeaf(Kind.ofLeaf(sort));
                return true;
            }
            if (!mayOpen(open)) {
                return false;
            }
            int start = tree.add(Kind.BRACKETS);
            feed.take();
            if (!parseWholePattern(open + 1) || !expect(Sort.ROUND_CLOSE)) {
                return false;
            }
            tree.close(start);
            return true;
        }

        private boolean parseWholePattern(int open) {
            int start = tree.size();
            boolean takesParts = feed.sort() == Sort.CON;
            if (!parsePattern(open)) {
                return false;
            }
            if (!takesParts || !Sort.beginsPattern(feed.sort())) {
                return true;
            }
            tree.insert(start, Kind.APPLIED);
            for (int turn = 0; turn < MOST_TURNS && Sort.beginsPattern(feed.sort()); turn++) {
                if (!parsePattern(open)) {
                    return false;
                }
            }
            tree.close(start);
            return true;
        }
    }

    /** NODES in their order, each with how many it is; names and NUMBERS are told by places. */
    private static final class Tree {
        // A LEXEME makes two NODES at most (do: DO and BLOCK), and PROGRAM is one.
        private static final int MOST = 2 * Lexemes.MOST + 1;

        private final int[] kinds;
        private final int[] sizes;
        private final int[] parents;
        private final int[] places;
        private final int[] lengths;
        // THE TEXT as it was read, since it may change while THE TREE stays.
        private final char[] letters;
        private int size;

        Tree() {
            kinds = new int[MOST];
            sizes = new int[MOST];
            parents = new int[MOST];
            places = new int[MOST];
            lengths = new int[MOST];
            letters = new char[Text.MOST];
        }

        int size() {
            return size;
        }

        boolean has(int i) {
            return i >= 0 && i < size;
        }

        void empty() {
            size = 0;
        }

        int add(int kind) {
            return addWritten(kind, 0, 0);
        }

        int addWritten(int kind, int place, int length) {
            int start = size;
            if (size < MOST) {
                kinds[size] = kind;
                sizes[size] = 1;
                places[size] = place;
                lengths[size] = length;
                size++;
            }
            return start;
        }

        /** A NODE comes ahead of those from start on, which are in it. */
        void insert(int start, int kind) {
            if (start < 0 || start >= size || size >= MOST) {
                return;
            }
            int many = size - start;
            System.arraycopy(kinds, start, kinds, start + 1, many);
            System.arraycopy(sizes, start, sizes, start + 1, many);
            System.arraycopy(places, start, places, start + 1, many);
            System.arraycopy(lengths, start, lengths, start + 1, many);
            kinds[start] = kind;
            places[start] = 0;
            lengths[start] = 0;
            size++;
            close(start);
        }

        void close(int start) {
            if (has(start)) {
                sizes[start] = size - start;
            }
        }

        void setKind(int i, int kind) {
            if (has(i)) {
                kinds[i] = kind;
            }
        }

        /** Whether the expression from start up to the last NODE is a WHOLE pattern, too. */
        boolean isWholePattern(int start) {
            for (int i = Math.max(0, start); i < size; i++) {
                switch (kinds[i]) {
                    case Kind.NAME:
                    case Kind.CON:
                    case Kind.NUMBER:
                    case Kind.BRACKETS:
                        break;
                    case Kind.APPLIED:
                        if (kindOf(i + 1) != Kind.CON) {
                            return false;
                        }
                        break;
                    default:
                        return false;
                }
            }
            return true;
        }

        void keep(Text text) {
            text.copyTo(letters);
            if (size > 0) {
                parents[0] = NONE;
            }
            for (int i = 0; i < size; i++) {
                int end = endOf(i);
                for (int j = i + 1; j < end; j += Math.max(1, sizeOf(j))) {
                    parents[j] = i;
                }
            }
        }

        int kindOf(int i) {
            return has(i) ? kinds[i] : NONE;
        }

        int parentOf(int i) {
            return has(i) ? parents[i] : NONE;
        }

        int sizeOf(int i) {
            return has(i) ? sizes[i] : 0;
        }

        int endOf(int i) {
            return Math.min(size, i + sizeOf(i));
        }

        int nameLengthOf(int i) {
            return has(i) && Kind.isNamed(kinds[i]) ? lengths[i] : 0;
        }

        int nameByte(int i, int k) {
            return k >= 0 && k < nameLengthOf(i) ? writtenByte(i, k) : NONE;
        }

        int numberOf(int i) {
            int number = 0;
            if (kindOf(i) == Kind.NUMBER) {
                for (int k = 0; k < lengths[i]; k++) {
                    number = 10 * number + (writtenByte(i, k) - '0');
                }
            }
            return number;
        }

        /** The k-th NODE in NODE i. */
        int part(int i, int k) {
            int end = endOf(i);
            int j = i + 1;
            for (int passed = 0; passed < k && j < end; passed++) {
                j += Math.max(1, sizeOf(j));
            }
            return k >= 0 && j < end ? j : NONE;
        }

        private int writtenByte(int i, int k) {
            int place = has(i) ? places[i] + k : NONE;
            return place >= 0 && place < letters.length ? letters[place] : NONE;
        }
    }

    /** WRITING: THE TREE becomes bytes in a row of its own, since THE TEXT stays if it is FULL. */
    private static final class Writer {
        // 30 open within one another make three NODES each at most, and some around them.
        private static final int MOST_LEVELS = 120;
        private static final int FIRST_POWER = 100000;

        private final char[] bytes;
        private int length;
        private Tree tree;
        private boolean byColumns;
        // The next TOKEN is the first of a line that has its spaces already.
        private boolean lineBegins;
        // A block in lines has just ended: the next TOKEN begins a line.
        private boolean blockEnded;

        Writer(Tree source) {
            bytes = new char[Text.MOST];
            tree = source;
        }

        void compose(Tree source, boolean inColumns) {
            tree = source;
            byColumns = inColumns;
            length = 0;
            lineBegins = true;
            blockEnded = false;
            if (byColumns) {
                putLines(0, 1, 0);
            } else {
                putBraces(0, 1, 0);
            }
        }

        /** Whether THE TEXT could become what was composed. */
        boolean handOver(Text text) {
            if (length > Text.MOST) {
                return false;
            }
            text.become(bytes, length);
            return true;
        }

        private void put(int value) {
            if (length < bytes.length) {
                bytes[length] = (char) (value & 255);
            }
            length++;
        }

        private void beginLine(int column) {
            if (length > 0) {
                put('\n');
            }
            for (int k = 1; k < column; k++) {
                put(' ');
            }
            lineBegins = true;
            blockEnded = false;
        }

        /** What stands ahead of a TOKEN in a thing of the block at that COLUMN. */
        private void beginToken(int column) {
            if (blockEnded) {
                beginLine(column + 2);
            } else if (!lineBegins) {
                put(' ');
            }
            lineBegins = false;
        }

        private void putWord(String word, int column) {
            beginToken(column);
            for (int k = 0; k < word.length(); k++) {
                put(word.charAt(k));
            }
        }

        private void putName(int i, int column) {
            beginToken(column);
            int many = tree.nameLengthOf(i);
            for (int k = 0; k < many; k++) {
                put(tree.nameByte(i, k));
            }
        }

        private void putNumber(int i, int column) {
            beginToken(column);
            int number = tree.numberOf(i);
            for (int power = FIRST_POWER; power >= 1; power /= 10) {
                if (number >= power || power == 1) {
                    put('0' + number / power % 10);
                }
            }
        }

        private void putLines(int i, int column, int level) {
            int end = tree.endOf(i);
            for (int j = i + 1; j < end; j += Math.max(1, tree.sizeOf(j))) {
                beginLine(column);
                putNode(j, column, level + 1);
            }
            blockEnded = true;
        }

        private void putBraces(int i, int column, int level) {
            putWord("{", column);
            putParts(i, ";", column, level);
            putWord("}", column);
        }

        private void putBlock(int i, int column, int level) {
            if (byColumns && tree.endOf(i) > i + 1) {
                putLines(i, column + 4, level);
            } else {
                putBraces(i, column, level);
            }
        }

        /** The NODES in NODE i with a sign, if it is not empty, between each two. */
        private void putParts(int i, String sign, int column, int level) {
            int end = tree.endOf(i);
            for (int j = i + 1; j < end; j += Math.max(1, tree.sizeOf(j))) {
                if (j > i + 1 && !sign.isEmpty()) {
                    putWord(sign, column);
                }
                putNode(j, column, level + 1);
            }
        }

        /** Patterns, the sign, the expression, and, if there is a BLOCK, where. */
        private void putBody(int i, String sign, int column, int level) {
            int end = tree.endOf(i);
            for (int j = i + 1; j < end; j += Math.max(1, tree.sizeOf(j))) {
                int next = tree.endOf(j);
                if (tree.kindOf(j) == Kind.BLOCK) {
                    putWord("where", column);
                } else if (next >= end || tree.kindOf(next) == Kind.BLOCK) {
                    putWord(sign, column);
                }
                putNode(j, column, level + 1);
            }
        }

        /** A word ahead of each of the NODES in NODE i; an empty one: none. */
        private void putWorded(int i, String first, String second, String third,
                int column, int level) {
            int end = tree.endOf(i);
            int number = 0;
            for (int j = i + 1; j < end; j += Math.max(1, tree.sizeOf(j))) {
                putWord(number == 0 ? first : number == 1 ? second : third, column);
                putNode(j, column, level + 1);
                number++;
            }
        }

        private void putNode(int i, int column, int level) {
            if (level > MOST_LEVELS) {
                return;
            }
            switch (tree.kindOf(i)) {
                case Kind.NAME:
                case Kind.CON:
                case Kind.OPERATOR:
                    putName(i, column);
                    break;
                case Kind.NUMBER:
                    putNumber(i, column);
                    break;
                case Kind.CHAIN:
                case Kind.APPLIED:
                    putParts(i, "", column, level);
                    break;
                case Kind.BRACKETS:
                case Kind.TUPLE:
                    putWord("(", column);
                    putParts(i, ",", column, level);
                    putWord(")", column);
                    break;
                case Kind.LIST:
                    putWord("[", column);
                    putParts(i, ",", column, level);
                    putWord("]", column);
                    break;
                case Kind.BLOCK:
                    putBlock(i, column, level);
                    break;
                default:
                    putThing(i, column, level);
                    break;
            }
        }

        private void putThing(int i, int column, int level) {
            switch (tree.kindOf(i)) {
                case Kind.DECLARATION:
                    putName(i, column);
                    putBody(i, "=", column, level);
                    break;
                case Kind.LAMBDA:
                    putWord("\\", column);
                    putBody(i, "->", column, level);
                    break;
                case Kind.ALTERNATIVE:
                    putBody(i, "->", column, level);
                    break;
                case Kind.TAKING:
                    putBody(i, "<-", column, level);
                    break;
                case Kind.IF:
                    putWorded(i, "if", "then", "else", column, level);
                    break;
                case Kind.CASE:
                    putWorded(i, "case", "of", "", column, level);
                    break;
                case Kind.DO:
                    putWorded(i, "do", "", "", column, level);
                    break;
                case Kind.LET:
                case Kind.LETTING:
                    putWorded(i, "let", "in", "", column, level);
                    break;
                default:
                    break;
            }
        }
    }
}
