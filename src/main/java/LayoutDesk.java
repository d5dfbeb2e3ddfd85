/**
 * A desk for texts whose blocks are told by how far in they stand. The words in capitals in the
 * comments are those of the document.
 */
public final class LayoutDesk {
    public static final int NONE = -1, BAD = -2, FULL = -3, NOT = -4;

    private static final int MOST_TYPED = 16;
    private static final int MOST_SPACES = 80;
    private static final int MOST_READS = 30;
    private static final int FAULT_ANSWER = -100;
    private static final int LEAST_INT = -2147483648;

    private final Text text;
    private final Lexemes lexemes;
    private final Feed feed;
    private final Parser parser;
    private final Writer writer;
    private Tree tree;
    // A read() builds here, so that a FAULT leaves THE TREE as it was.
    private Tree spare;
    private int reads;
    private int latestFault;

    public LayoutDesk() {
        text = new Text();
        lexemes = new Lexemes(text);
        feed = new Feed(lexemes);
        tree = new Tree();
        spare = new Tree();
        parser = new Parser(lexemes, feed, spare);
        writer = new Writer(tree);
    }

    public int type(long a, long b, int n) {
        if (n < 0 || n > MOST_TYPED) {
            return BAD;
        }
        if (!text.hasRoom(n)) {
            return FULL;
        }
        for (int k = 0; k < n; k++) {
            long eight = k < 8 ? a : b;
            text.append((int) (eight >>> (56 - 8 * (k & 7))) & 255);
        }
        return text.length();
    }

    public int space(boolean line, int n) {
        if (n < 0 || n > MOST_SPACES) {
            return BAD;
        }
        if (!text.hasRoom(line ? n + 1 : n)) {
            return FULL;
        }
        if (line) {
            text.append('\n');
        }
        for (int k = 0; k < n; k++) {
            text.append(' ');
        }
        return text.length();
    }

    public int clear() {
        int had = text.length();
        text.empty();
        return had;
    }

    public int at(int i) {
        return text.byteAt(i);
    }

    public int alter(int i, int v) {
        int was = text.byteAt(i);
        if (was == NONE || v < 0 || v > 255) {
            return BAD;
        }
        text.set(i, v);
        return was;
    }

    public int read() {
        if (reads >= MOST_READS) {
            return FULL;
        }
        reads++;
        feed.empty();
        lexemes.scan();
        latestFault = lexemes.faultNumber();
        if (latestFault != 0) {
            return FAULT_ANSWER - lexemes.faultPlace();
        }
        parser.parse(spare);
        latestFault = parser.faultNumber();
        if (latestFault != 0) {
            return FAULT_ANSWER - parser.faultPlace();
        }
        spare.keep(text);
        Tree former = tree;
        tree = spare;
        spare = former;
        return tree.size();
    }

    public int fault() {
        return latestFault;
    }

    public int lexeme(int i, int what) {
        if (what < 0 || what > 5) {
            return BAD;
        }
        if (i < 0 || i >= lexemes.size()) {
            return NONE;
        }
        switch (what) {
            case 0:
                return lexemes.placeOf(i);
            case 1:
                return lexemes.columnOf(i);
            case 2:
                return lexemes.kindOf(i);
            case 3:
                return lexemes.lengthOf(i);
            case 4:
                return lexemes.openingOf(i);
            default:
                return lexemes.indentOf(i);
        }
    }

    public int token(int i) {
        return feed.tokenAt(i);
    }

    public int count(int what) {
        switch (what) {
            case 0:
                return text.length();
            case 1:
                return lexemes.size();
            case 2:
                return feed.size();
            case 3:
                return tree.size();
            case 4:
                return reads;
            default:
                return BAD;
        }
    }

    public int node(int i, int what) {
        if (!tree.has(i)) {
            return LEAST_INT;
        }
        switch (what) {
            case 0:
                return tree.kindOf(i);
            case 1:
                return tree.parentOf(i);
            case 2:
                return tree.sizeOf(i);
            case 3:
                return tree.numberOf(i);
            case 4:
                return tree.nameLengthOf(i);
            default:
                return LEAST_INT;
        }
    }

    public int letter(int i, int k) {
        return tree.has(i) ? tree.nameByte(i, k) : BAD;
    }

    public int child(int i, int k) {
        return tree.has(i) ? tree.part(i, k) : BAD;
    }

    public int write(int form) {
        if (form != 0 && form != 1) {
            return BAD;
        }
        if (tree.size() == 0) {
            return NOT;
        }
        writer.compose(tree, form == 1);
        return writer.handOver(text) ? text.length() : FULL;
    }

    public long digest() {
        long h = 17;
        for (int i = 0; i < tree.size(); i++) {
            h = 31 * h + tree.kindOf(i);
            h = 31 * h + tree.parentOf(i);
            h = 31 * h + tree.sizeOf(i);
            h = 31 * h + tree.numberOf(i);
            int length = tree.nameLengthOf(i);
            h = 31 * h + length;
            for (int k = 0; k < length; k++) {
                h = 31 * h + tree.nameByte(i, k);
            }
        }
        return h;
    }

    /** THE TEXT: a row of bytes, each held as a char of 0 to 255. */
    private static final class Text {
        static final int MOST = 3000;

        private final char[] bytes;
        private int length;

        Text() {
            bytes = new char[MOST];
        }

        int length() {
            return length;
        }

        boolean hasRoom(int more) {
            return more <= MOST - length;
        }

        int byteAt(int place) {
            return place >= 0 && place < length ? bytes[place] : NONE;
        }

        void append(int value) {
            if (length < MOST) {
                bytes[length] = (char) (value & 255);
                length++;
            }
        }

        void set(int place, int value) {
            if (place >= 0 && place < length) {
                bytes[place] = (char) (value & 255);
            }
        }

        void empty() {
            length = 0;
        }

        void copyTo(char[] row) {
            System.arraycopy(bytes, 0, row, 0, Math.min(length, row.length));
        }

        void become(char[] row, int many) {
            length = Math.max(0, Math.min(many, Math.min(MOST, row.length)));
            System.arraycopy(row, 0, bytes, 0, length);
        }
    }

    /** What a LEXEME is to the grammar; the first four are the kinds of the same numbers. */
    private static final class Sort {
        static final int NAME = 0, CON = 1, NUMBER = 2, OPERATOR = 3;
        static final int ROUND_OPEN = 4, ROUND_CLOSE = 5, SQUARE_OPEN = 6, SQUARE_CLOSE = 7;
        static final int COMMA = 8, SEMICOLON = 9, BRACE_OPEN = 10, BRACE_CLOSE = 11;
        static final int BACKSLASH = 12, EQUALS = 13, ARROW = 14, TAKES = 15;
        static final int LET = 16, IN = 17, WHERE = 18, DO = 19, OF = 20;
        static final int CASE = 21, IF = 22, THEN = 23, ELSE = 24;
        static final int END = 25;
        // A } of THE TEXT whose CONTEXT is not 0: it can stand nowhere.
        static final int STRAY_CLOSE = 26;

        static int kindOf(int sort) {
            if (sort <= OPERATOR) {
                return sort;
            }
            return sort < LET ? 4 : 5;
        }

        static boolean opensBlock(int sort) {
            return sort == LET || sort == WHERE || sort == DO || sort == OF;
        }

        static boolean beginsPattern(int sort) {
            return sort == NAME || sort == CON || sort == NUMBER || sort == ROUND_OPEN;
        }

        static boolean beginsAtom(int sort) {
            return beginsPattern(sort) || sort == SQUARE_OPEN;
        }

        static boolean beginsExpression(int sort) {
            return beginsAtom(sort) || sort == BACKSLASH || sort == LET || sort == IF
                    || sort == CASE || sort == DO;
        }
    }

    /** The KINDS of NODES. */
    private static final class Kind {
        static final int PROGRAM = 0, DECLARATION = 1, NAME = 2, CON = 3, NUMBER = 4;
        static final int OPERATOR = 5, CHAIN = 6, APPLIED = 7, BRACKETS = 8, TUPLE = 9;
        static final int LIST = 10, LAMBDA = 11, LET = 12, IF = 13, CASE = 14, DO = 15;
        static final int BLOCK = 16, ALTERNATIVE = 17, TAKING = 18, LETTING = 19;

        static int ofLeaf(int sort) {
            return sort == Sort.NAME ? NAME : sort == Sort.CON ? CON : NUMBER;
        }

        static int ofOperand(int sort) {
            switch (sort) {
                case Sort.BACKSLASH:
                    return LAMBDA;
                case Sort.LET:
                    return LET;
                case Sort.IF:
                    return IF;
                case Sort.CASE:
                    return CASE;
                default:
                    return DO;
            }
        }

        static boolean isNamed(int kind) {
            return kind == DECLARATION || kind == NAME || kind == CON || kind == OPERATOR;
        }
    }

    /** The LEXEMES of THE TEXT, up to the first FAULT of section 1. */
    private static final class Lexemes {
        static final int MOST = 800;
        private static final int MOST_NAME = 12, MOST_FIGURES = 6, MOST_OPERATOR = 3;
        private static final int MOST_COMMENTS = 6;
        private static final String OPERATOR_BYTES = "+-*/<>=:!&|.#";

        private final Text text;
        private final int[] places;
        private final int[] columns;
        private final int[] sorts;
        private final int[] lengths;
        private final int[] openings;
        private final int[] indents;
        private int size;
        private int faultNumber;
        private int faultPlace;
        private int endOpening;
        private int place;
        private int lineStart;
        private boolean lineHasLexeme;

        Lexemes(Text source) {
            text = source;
            places = new int[MOST];
            columns = new int[MOST];
            sorts = new int[MOST];
            lengths = new int[MOST];
            openings = new int[MOST];
            indents = new int[MOST];
        }

        int size() {
            return size;
        }

        int faultNumber() {
            return faultNumber;
        }

        int faultPlace() {
            return faultPlace;
        }

        /** The place of LEXEME i, or of the end, where there is none. */
        int placeOf(int i) {
            return i >= 0 && i < size ? places[i] : text.length();
        }

        int columnOf(int i) {
            return i >= 0 && i < size ? columns[i] : NONE;
        }

        int sortOf(int i) {
            return i >= 0 && i < size ? sorts[i] : Sort.END;
        }

        int kindOf(int i) {
            return Sort.kindOf(sortOf(i));
        }

        int lengthOf(int i) {
            return i >= 0 && i < size ? lengths[i] : 0;
        }

        /** The OPENING of LEXEME i, or of the end, where there is none. */
        int openingOf(int i) {
            return i >= 0 && i < size ? openings[i] : endOpening;
        }

        int indentOf(int i) {
            return i >= 0 && i < size ? indents[i] : NONE;
        }

        void scan() {
            size = 0;
            faultNumber = 0;
            faultPlace = 0;
            place = 0;
            lineStart = 0;
            lineHasLexeme = false;
            int end = text.length();
            for (int turn = 0; turn < end && place < end && faultNumber == 0; turn++) {
                goOn(text.byteAt(place));
            }
            endOpening = isBlockDue() ? 0 : NONE;
        }

        /** Whether a block begins with what comes next, if that is not {. */
        private boolean isBlockDue() {
            return size == 0 || Sort.opensBlock(sortOf(size - 1));
        }

        private void goOn(int value) {
            if (value == '\n') {
                endLine(place);
                place++;
            } else if (value == ' ') {
                place++;
            } else if (value == '{' && text.byteAt(place + 1) == '-') {
                passNestedComment();
            } else if (isLineComment()) {
                passLineComment();
            } else {
                takeLexeme(value);
            }
        }

        private void endLine(int lineEnd) {
            lineStart = lineEnd + 1;
            lineHasLexeme = false;
        }

        private boolean isLineComment() {
            int dashes = 0;
            int end = text.length();
            for (int p = place; p < end && text.byteAt(p) == '-'; p++) {
                dashes++;
            }
            return dashes >= 2 && !isOperatorByte(text.byteAt(place + dashes));
        }

        private void passLineComment() {
            int end = text.length();
            int p = place;
            while (p < end && text.byteAt(p) != '\n') {
                p++;
            }
            place = p;
        }

        private void passNestedComment() {
            int end = text.length();
            int depth = 0;
            for (int p = place; p < end; p++) {
                int value = text.byteAt(p);
                int next = text.byteAt(p + 1);
                if (value == '\n') {
                    endLine(p);
                } else if (value == '{' && next == '-') {
                    depth++;
                    p++;
                } else if (value == '-' && next == '}') {
                    depth--;
                    p++;
                }
                if (depth > MOST_COMMENTS) {
                    break;
                }
                if (depth == 0) {
                    place = p + 1;
                    return;
                }
            }
            refuse(3);
        }

        private void takeLexeme(int value) {
            if (isSmall(value)) {
                int length = nameLength();
                add(length, MOST_NAME, wordSort(length));
            } else if (isCapital(value)) {
                add(nameLength(), MOST_NAME, Sort.CON);
            } else if (isFigure(value)) {
                add(numberLength(), MOST_FIGURES, Sort.NUMBER);
            } else if (isOperatorByte(value)) {
                int length = operatorLength();
                add(length, MOST_OPERATOR, operatorSort(length));
            } else {
                int sort = signSort(value);
                if (sort == NONE) {
                    refuse(1);
                } else {
                    add(1, 1, sort);
                }
            }
        }

        private void add(int length, int most, int sort) {
            if (length > most) {
                refuse(2);
            } else if (size >= MOST) {
                refuse(5);
            } else {
                int column = place - lineStart + 1;
                boolean opens = sort != Sort.BRACE_OPEN && isBlockDue();
                places[size] = place;
                columns[size] = column;
                sorts[size] = sort;
                lengths[size] = length;
                openings[size] = opens ? column : NONE;
                indents[size] = !opens && !lineHasLexeme ? column : NONE;
                lineHasLexeme = true;
                size++;
                place += length;
            }
        }

        private void refuse(int number) {
            faultNumber = number;
            faultPlace = place;
        }

        private int nameLength() {
            int end = text.length();
            int p = place;
            while (p < end && isNameByte(text.byteAt(p))) {
                p++;
            }
            return p - place;
        }

        private int numberLength() {
            int end = text.length();
            int p = place;
            while (p < end && isFigure(text.byteAt(p))) {
                p++;
            }
            return p - place;
        }

        private int operatorLength() {
            int end = text.length();
            int p = place;
            while (p < end && isOperatorByte(text.byteAt(p))) {
                p++;
            }
            return p - place;
        }

        private int wordSort(int length) {
            if (spells("let", length)) {
                return Sort.LET;
            }
            if (spells("in", length)) {
                return Sort.IN;
            }
            if (spells("where", length)) {
                return Sort.WHERE;
            }
            if (spells("do", length)) {
                return Sort.DO;
            }
            if (spells("of", length)) {
                return Sort.OF;
            }
            if (spells("case", length)) {
                return Sort.CASE;
            }
            if (spells("if", length)) {
                return Sort.IF;
            }
            if (spells("then", length)) {
                return Sort.THEN;
            }
            return spells("else", length) ? Sort.ELSE : Sort.NAME;
        }

        private int operatorSort(int length) {
            if (spells("=", length)) {
                return Sort.EQUALS;
            }
            if (spells("->", length)) {
                return Sort.ARROW;
            }
            return spells("<-", length) ? Sort.TAKES : Sort.OPERATOR;
        }

        private boolean spells(String word, int length) {
            if (word.length() != length) {
                return false;
            }
            for (int k = 0; k < length; k++) {
                if (text.byteAt(place + k) != word.charAt(k)) {
                    return false;
                }
            }
            return true;
        }

        private static int signSort(int value) {
            switch (value) {
                case '(':
                    return Sort.ROUND_OPEN;
                case ')':
                    return Sort.ROUND_CLOSE;
                case '[':
                    return Sort.SQUARE_OPEN;
                case ']':
                    return Sort.SQUARE_CLOSE;
                case ',':
                    return Sort.COMMA;
                case ';':
                    return Sort.SEMICOLON;
                case '{':
                    return Sort.BRACE_OPEN;
                case '}':
                    return Sort.BRACE_CLOSE;
                case '\\':
                    return Sort.BACKSLASH;
                default:
                    return NONE;
            }
        }

        private static boolean isSmall(int value) {
            return value >= 'a' && value <= 'z' || value == '_';
        }

        private static boolean isCapital(int value) {
            return value >= 'A' && value <= 'Z';
        }

        private static boolean isFigure(int value) {
            return value >= '0' && value <= '9';
        }

        private static boolean isNameByte(int value) {
            return isSmall(value) || isCapital(value) || isFigure(value) || value == '\'';
        }

        private static boolean isOperatorByte(int value) {
            return value > ' ' && value < 127 && OPERATOR_BYTES.indexOf((char) value) >= 0;
        }
    }

    /**
     * THE RULE of section 2: it holds the CONTEXTS, tells which TOKEN comes next, and keeps those
     * that were taken. What can stand is for the Parser to say.
     */
    private static final class Feed {
        private static final int OPEN_PUT_IN = -10, PART_PUT_IN = -11, CLOSE_PUT_IN = -12;
        private static final int CLOSE_BY_ERROR = -13;
        // What is still to come ahead of the LEXEME at hand: nothing, what its INDENT puts in, the
        // { of its OPENING, or the } of an OPENING that was not further in.
        private static final int PLAIN = 0, INDENTED = 1, OPENING = 2, EMPTY_BLOCK = 3;
        // A LEXEME may have a { and a } put in for its block and a ; ahead of it; so may the end.
        private static final int MOST = 4 * (Lexemes.MOST + 1);

        private final Lexemes lexemes;
        private final int[] tokens;
        private final int[] contexts;
        private int size;
        private int depth;
        // The CONTEXT on top; NONE, which is below all of them, if there is none.
        private int top;
        private int position;
        private int phase;
        private int column;

        Feed(Lexemes source) {
            lexemes = source;
            tokens = new int[MOST];
            contexts = new int[Lexemes.MOST + 1];
        }

        int size() {
            return size;
        }

        int position() {
            return position;
        }

        int tokenAt(int i) {
            return i >= 0 && i < size ? tokens[i] : NONE;
        }

        void empty() {
            size = 0;
        }

        void cut(int many) {
            size = Math.max(0, Math.min(size, many));
        }

        void start() {
            size = 0;
            depth = 0;
            top = NONE;
            position = 0;
            meetLexeme();
        }

        /** The Sort of the TOKEN that comes next, put in or not. */
        int sort() {
            switch (phase) {
                case OPENING:
                    return Sort.BRACE_OPEN;
                case EMPTY_BLOCK:
                    return Sort.BRACE_CLOSE;
                case INDENTED:
                    return column == top ? Sort.SEMICOLON : Sort.BRACE_CLOSE;
                default:
                    return plainSort();
            }
        }

        void take() {
            switch (phase) {
                case OPENING:
                    takeOpening();
                    break;
                case EMPTY_BLOCK:
                    keep(CLOSE_PUT_IN);
                    phase = INDENTED;
                    passIndent();
                    break;
                case INDENTED:
                    takeIndent();
                    break;
                default:
                    if (position < lexemes.size()) {
                        takeLexeme();
                        meetLexeme();
                    } else {
                        keep(CLOSE_PUT_IN);
                        leaveContext();
                    }
                    break;
            }
        }

        /** parse-error(t), once the Parser knows that } could stand: whether it was put in. */
        boolean closeByError() {
            if (phase != PLAIN || position >= lexemes.size() || top <= 0) {
                return false;
            }
            int sort = lexemes.sortOf(position);
            if (sort == Sort.BRACE_OPEN || sort == Sort.BRACE_CLOSE) {
                return false;
            }
            keep(CLOSE_BY_ERROR);
            leaveContext();
            return true;
        }

        /** Whether ; comes next and the TOKEN behind it is the word. */
        boolean isPartAhead(int word) {
            if (sort() != Sort.SEMICOLON) {
                return false;
            }
            if (phase == INDENTED) {
                return lexemes.sortOf(position) == word;
            }
            int indent = lexemes.indentOf(position + 1);
            return lexemes.sortOf(position + 1) == word && (indent == NONE || indent > top);
        }

        private int plainSort() {
            if (position >= lexemes.size()) {
                return top > 0 ? Sort.BRACE_CLOSE : Sort.END;
            }
            int sort = lexemes.sortOf(position);
            return sort == Sort.BRACE_CLOSE && top != 0 ? Sort.STRAY_CLOSE : sort;
        }

        private void meetLexeme() {
            int opening = lexemes.openingOf(position);
            int indent = lexemes.indentOf(position);
            if (opening != NONE) {
                phase = OPENING;
                column = opening;
            } else {
                phase = indent != NONE && indent <= top ? INDENTED : PLAIN;
                column = indent;
            }
        }

        private void passIndent() {
            if (column > top) {
                phase = PLAIN;
            }
        }

        private void takeOpening() {
            keep(OPEN_PUT_IN);
            if (column > Math.max(0, top)) {
                enterContext(column);
                phase = PLAIN;
            } else {
                phase = EMPTY_BLOCK;
            }
        }

        private void takeIndent() {
            if (column == top) {
                keep(PART_PUT_IN);
                phase = PLAIN;
            } else {
                keep(CLOSE_PUT_IN);
                leaveContext();
                passIndent();
            }
        }

        private void takeLexeme() {
            int sort = lexemes.sortOf(position);
            if (sort == Sort.BRACE_OPEN) {
                enterContext(0);
            } else if (sort == Sort.BRACE_CLOSE) {
                leaveContext();
            }
            keep(position);
            position++;
        }

        private void keep(int token) {
            if (size < MOST) {
                tokens[size] = token;
                size++;
            }
        }

        private void enterContext(int context) {
            if (depth < contexts.length) {
                contexts[depth] = context;
                depth++;
                top = context;
            }
        }

        private void leaveContext() {
            if (depth > 0) {
                depth--;
            }
            top = depth > 0 && depth <= contexts.length ? contexts[depth - 1] : NONE;
        }
    }

    /**
     * What was opened, each with how many were open then, itself counted in. A let in a step turns
     * out to be an operand only when in comes behind its block; then it counts, also in all that was
     * opened in it. So what is too far in is known only when all was read.
     */
    private static final class Openings {
        private static final int MOST_OPEN = 30;
        // A LEXEME may open an operand or a bracket, and a block may begin with it, or with the end.
        private static final int MOST = 2 * (Lexemes.MOST + 1);

        private final int[] depths;
        private final int[] tokens;
        private final int[] positions;
        // The openings of the lets in steps whose blocks have not ended yet.
        private final int[] lets;
        private int size;
        private int letsPending;
        private int depth;

        Openings() {
            depths = new int[MOST];
            tokens = new int[MOST];
            positions = new int[MOST];
            lets = new int[Lexemes.MOST];
        }

        void empty() {
            size = 0;
            letsPending = 0;
            depth = 0;
        }

        /** Something opens at the LEXEME of that position; so many TOKENS are ahead of it. */
        void enter(int token, int position) {
            depth++;
            add(token, position);
        }

        void leave() {
            depth--;
        }

        /** A let in a step, which does not count yet. */
        void enterLetStep(int token, int position) {
            if (letsPending < lets.length) {
                lets[letsPending] = size;
                letsPending++;
            }
            add(token, position);
        }

        /** The block of the latest let in a step has ended; if in comes, the let is open on. */
        void settleLetStep(boolean isOperand) {
            if (letsPending <= 0 || letsPending > lets.length) {
                return;
            }
            letsPending--;
            if (isOperand) {
                depth++;
                for (int i = Math.max(0, lets[letsPending]); i < size; i++) {
                    depths[i]++;
                }
            }
        }

        /** NONE, if nothing is too far in. */
        int firstTooFarIn() {
            for (int i = 0; i < size; i++) {
                if (depths[i] > MOST_OPEN) {
                    return i;
                }
            }
            return NONE;
        }

        int tokenOf(int i) {
            return i >= 0 && i < size ? tokens[i] : 0;
        }

        int positionOf(int i) {
            return i >= 0 && i < size ? positions[i] : 0;
        }

        private void add(int token, int position) {
            if (size < MOST) {
                depths[size] = depth;
                tokens[size] = token;
                positions[size] = position;
                size++;
            }
        }
    }

    /** What the grammar awaits: a TOKEN, told by its Sort, or one of these. */
    private static final class Due {
        // The block behind its word.
        static final int DECLARATION_BLOCK = 32, CASE_BLOCK = 33, STEP_BLOCK = 34;
        // In a block, behind { or ;.
        static final int DECLARATIONS = 35, CASES = 36, STEPS = 37;
        // With one of the three above: a single thing, and what may come behind it.
        static final int SINGLE = 3, BEHIND = 6;
        static final int DECLARATION = DECLARATIONS + SINGLE, CASE = CASES + SINGLE;
        static final int STEP = STEPS + SINGLE;
        static final int BEHIND_DECLARATION = DECLARATIONS + BEHIND, BEHIND_CASE = CASES + BEHIND;
        static final int BEHIND_STEP = STEPS + BEHIND;
        // Perhaps where with its block; <- behind the beginning of a step; in behind its let.
        static final int WHERE = 44, TAKING = 45, LETTING = 46;

        static final int PATTERN = 47, PATTERNS = 48, WHOLE_PATTERN = 49;
        static final int EXPRESSION = 50, OPERAND = 51, ATOM = 52;
        // Behind the first operand, the first ATOM: perhaps more of them, then any number.
        static final int CHAIN = 53, LINKS = 54, APPLIED = 55, ATOMS = 56;
        // Behind an expression in ( ) or [ ].
        static final int ROW = 57;
        // A NODE is whole; it is also open no more.
        static final int NODE_END = 58, OPENED_END = 59;

        static final int[] IN_DECLARATION = {PATTERNS, Sort.EQUALS, EXPRESSION, WHERE};
        static final int[] IN_CASE = {WHOLE_PATTERN, Sort.ARROW, EXPRESSION, WHERE};
        static final int[] IN_BRACKETS = {WHOLE_PATTERN, Sort.ROUND_CLOSE};
        static final int[] IN_LAMBDA = {PATTERN, PATTERNS, Sort.ARROW, EXPRESSION};
        static final int[] IN_LET = {DECLARATION_BLOCK, Sort.IN, EXPRESSION};
        static final int[] IN_IF = {EXPRESSION, Sort.THEN, EXPRESSION, Sort.ELSE, EXPRESSION};
        static final int[] IN_CASE_OF = {EXPRESSION, Sort.OF, CASE_BLOCK};
        static final int[] IN_DO = {STEP_BLOCK};

        /** What is due behind the first TOKEN of an operand. */
        static int[] inOperand(int sort) {
            switch (sort) {
                case Sort.BACKSLASH:
                    return IN_LAMBDA;
                case Sort.LET:
                    return IN_LET;
                case Sort.IF:
                    return IN_IF;
                case Sort.CASE:
                    return IN_CASE_OF;
                default:
                    return IN_DO;
            }
        }
    }

    /** All that is due, the next on top, each with the NODE that it is about. */
    private static final class Pile {
        // No LEXEME leaves more than six behind for later; an if does.
        private static final int MOST = 6 * (Lexemes.MOST + 2);

        private final int[] dues;
        private final int[] nodes;
        private int size;

        Pile() {
            dues = new int[MOST];
            nodes = new int[MOST];
        }

        boolean isEmpty() {
            return size <= 0;
        }

        void empty() {
            size = 0;
        }

        void push(int due, int node) {
            if (size < MOST) {
                dues[size] = due;
                nodes[size] = node;
                size++;
            }
        }

        /** The row is due from its first on; end, which is about the NODE, behind it. */
        void pushRow(int[] row, int end, int node) {
            push(end, node);
            for (int k = row.length - 1; k >= 0; k--) {
                push(row[k], NONE);
            }
        }

        int topDue() {
            return size > 0 && size <= MOST ? dues[size - 1] : NONE;
        }

        int topNode() {
            return size > 0 && size <= MOST ? nodes[size - 1] : NONE;
        }

        void pop() {
            if (size > 0) {
                size--;
            }
        }
    }

    /**
     * The grammar of section 2, from the left, with the TOKEN at hand alone. It goes by a Pile and
     * not by recursion, since it must go on where too much is open: an in further on may make an
     * earlier let the one that is too far in.
     */
    private static final class Parser {
        // Above what can be due in a whole TEXT.
        private static final int MOST_TURNS = 100000;

        private final Lexemes lexemes;
        private final Feed feed;
        private final Openings openings;
        private final Pile pile;
        private Tree tree;
        private int faultNumber;
        private int faultPlace;

        Parser(Lexemes source, Feed tokens, Tree target) {
            lexemes = source;
            feed = tokens;
            openings = new Openings();
            pile = new Pile();
            tree = target;
        }

        int faultNumber() {
            return faultNumber;
        }

        int faultPlace() {
            return faultPlace;
        }

        void parse(Tree target) {
            tree = target;
            tree.empty();
            openings.empty();
            pile.empty();
            faultNumber = 0;
            faultPlace = 0;
            feed.start();
            openBlock(Due.DECLARATIONS, tree.add(Kind.PROGRAM));
            for (int turn = 0; turn < MOST_TURNS && !pile.isEmpty() && faultNumber == 0; turn++) {
                int due = pile.topDue();
                int node = pile.topNode();
                pile.pop();
                if (due < Due.DECLARATION_BLOCK) {
                    meetToken(due);
                } else if (due < Due.PATTERN) {
                    meetPartOfBlock(due, node);
                } else {
                    meetPartOfThing(due, node);
                }
            }
            if (faultNumber == 0 && feed.sort() != Sort.END) {
                refuse();
            }
            refuseTooFarIn();
        }

        /** FAULT 4 at the LEXEME at hand. */
        private void refuse() {
            faultNumber = 4;
            faultPlace = lexemes.placeOf(feed.position());
        }

        /** FAULT 5, which is ahead of any FAULT 4: what was opened could stand. */
        private void refuseTooFarIn() {
            int first = openings.firstTooFarIn();
            if (first != NONE) {
                faultNumber = 5;
                faultPlace = lexemes.placeOf(openings.positionOf(first));
                feed.cut(openings.tokenOf(first));
            }
        }

        private void meetPartOfBlock(int due, int node) {
            switch (due) {
                case Due.DECLARATION_BLOCK:
                    openBlock(Due.DECLARATIONS, tree.add(Kind.BLOCK));
                    break;
                case Due.CASE_BLOCK:
                    openBlock(Due.CASES, tree.add(Kind.BLOCK));
                    break;
                case Due.STEP_BLOCK:
                    openBlock(Due.STEPS, tree.add(Kind.BLOCK));
                    break;
                case Due.DECLARATIONS:
                case Due.CASES:
                case Due.STEPS:
                    meetThings(due, node);
                    break;
                case Due.DECLARATION:
                    meetDeclaration();
                    break;
                case Due.CASE:
                    pile.pushRow(Due.IN_CASE, Due.NODE_END, tree.add(Kind.ALTERNATIVE));
                    break;
                case Due.STEP:
                    meetStep();
                    break;
                case Due.BEHIND_DECLARATION:
                case Due.BEHIND_CASE:
                case Due.BEHIND_STEP:
                    meetBehindThing(due - Due.BEHIND, node);
                    break;
                case Due.WHERE:
                    meetWhere();
                    break;
                case Due.TAKING:
                    meetTaking(node);
                    break;
                default:
                    meetLetting(node);
                    break;
            }
        }

        private void meetPartOfThing(int due, int node) {
            switch (due) {
                case Due.PATTERN:
                    meetPattern();
                    break;
                case Due.PATTERNS:
                    meetPatterns();
                    break;
                case Due.WHOLE_PATTERN:
                    meetWholePattern();
                    break;
                case Due.EXPRESSION:
                    pile.push(Due.CHAIN, tree.size());
                    pile.push(Due.OPERAND, NONE);
                    break;
                case Due.OPERAND:
                    meetOperand();
                    break;
                case Due.ATOM:
                    meetAtom();
                    break;
                case Due.CHAIN:
                    meetChain(node);
                    break;
                case Due.LINKS:
                    meetLinks();
                    break;
                case Due.APPLIED:
                    meetApplied(node);
                    break;
                case Due.ATOMS:
                    meetAtoms();
                    break;
                case Due.ROW:
                    meetRow(node);
                    break;
                case Due.OPENED_END:
                    tree.close(node);
                    openings.leave();
                    break;
                default:
                    tree.close(node);
                    break;
            }
        }

        private void meetToken(int sort) {
            if ((sort == Sort.THEN || sort == Sort.ELSE) && feed.isPartAhead(sort)) {
                feed.take();
            }
            if (feed.sort() == sort) {
                feed.take();
            } else {
                refuse();
            }
        }

        private void takeLeaf(int kind) {
            int position = feed.position();
            tree.addWritten(kind, lexemes.placeOf(position), lexemes.lengthOf(position));
            feed.take();
        }

        /** The LEXEME at hand opens something. */
        private void enter() {
            openings.enter(feed.size(), feed.position());
        }

        private void openBlock(int things, int node) {
            // A { that begins a line may have a ; or a } put in ahead of it, which cannot stand.
            if (feed.sort() != Sort.BRACE_OPEN) {
                refuse();
                return;
            }
            enter();
            feed.take();
            pile.push(things, node);
        }

        private static boolean beginsThing(int things, int sort) {
            switch (things) {
                case Due.DECLARATIONS:
                    return sort == Sort.NAME;
                case Due.CASES:
                    return Sort.beginsPattern(sort);
                default:
                    return Sort.beginsExpression(sort);
            }
        }

        private void meetThings(int things, int node) {
            if (beginsThing(things, feed.sort())) {
                pile.push(things + Due.BEHIND, node);
                pile.push(things + Due.SINGLE, NONE);
            } else {
                meetBehindThing(things, node);
            }
        }

        private void meetBehindThing(int things, int node) {
            int sort = feed.sort();
            if (sort == Sort.SEMICOLON) {
                feed.take();
                pile.push(things, node);
            } else if (sort == Sort.BRACE_CLOSE) {
                feed.take();
                closeBlock(node);
            } else if (feed.closeByError()) {
                closeBlock(node);
            } else {
                refuse();
            }
        }

        private void closeBlock(int node) {
            tree.close(node);
            openings.leave();
        }

        private void meetDeclaration() {
            int node = tree.size();
            takeLeaf(Kind.DECLARATION);
            pile.pushRow(Due.IN_DECLARATION, Due.NODE_END, node);
        }

        private void meetWhere() {
            if (feed.sort() == Sort.WHERE) {
                feed.take();
                pile.push(Due.DECLARATION_BLOCK, NONE);
            }
        }

        private void meetStep() {
            if (feed.sort() == Sort.LET) {
                openings.enterLetStep(feed.size(), feed.position());
                pile.push(Due.LETTING, tree.add(Kind.LETTING));
                pile.push(Due.DECLARATION_BLOCK, NONE);
                feed.take();
            } else {
                pile.push(Due.TAKING, tree.size());
                pile.push(Due.EXPRESSION, NONE);
            }
        }

        private void meetTaking(int node) {
            if (feed.sort() == Sort.TAKES && tree.isWholePattern(node)) {
                feed.take();
                tree.insert(node, Kind.TAKING);
                pile.push(Due.NODE_END, node);
                pile.push(Due.EXPRESSION, NONE);
            }
        }

        private void meetLetting(int node) {
            boolean isOperand = feed.sort() == Sort.IN;
            openings.settleLetStep(isOperand);
            if (isOperand) {
                feed.take();
                tree.setKind(node, Kind.LET);
                pile.push(Due.OPENED_END, node);
                pile.push(Due.EXPRESSION, NONE);
            } else {
                tree.close(node);
            }
        }

        private void meetPattern() {
            int sort = feed.sort();
            if (sort == Sort.ROUND_OPEN) {
                enter();
                feed.take();
                pile.pushRow(Due.IN_BRACKETS, Due.OPENED_END, tree.add(Kind.BRACKETS));
            } else if (Sort.beginsPattern(sort)) {
                takeLeaf(Kind.ofLeaf(sort));
            } else {
                refuse();
            }
        }

        private void meetPatterns() {
            if (Sort.beginsPattern(feed.sort())) {
                pile.push(Due.PATTERNS, NONE);
                pile.push(Due.PATTERN, NONE);
            }
        }

        private void meetWholePattern() {
            if (feed.sort() != Sort.CON) {
                pile.push(Due.PATTERN, NONE);
                return;
            }
            int node = tree.size();
            takeLeaf(Kind.CON);
            if (Sort.beginsPattern(feed.sort())) {
                tree.insert(node, Kind.APPLIED);
                pile.push(Due.NODE_END, node);
                pile.push(Due.PATTERNS, NONE);
            }
        }

        private void meetOperand() {
            int sort = feed.sort();
            if (Sort.beginsAtom(sort)) {
                pile.push(Due.APPLIED, tree.size());
                pile.push(Due.ATOM, NONE);
            } else if (Sort.beginsExpression(sort)) {
                enter();
                feed.take();
                int node = tree.add(Kind.ofOperand(sort));
                pile.pushRow(Due.inOperand(sort), Due.OPENED_END, node);
            } else {
                refuse();
            }
        }

        private void meetChain(int node) {
            if (feed.sort() == Sort.OPERATOR) {
                tree.insert(node, Kind.CHAIN);
                pile.push(Due.NODE_END, node);
                pile.push(Due.LINKS, NONE);
            }
        }

        private void meetLinks() {
            if (feed.sort() == Sort.OPERATOR) {
                takeLeaf(Kind.OPERATOR);
                pile.push(Due.LINKS, NONE);
                pile.push(Due.OPERAND, NONE);
            }
        }

        private void meetApplied(int node) {
            if (Sort.beginsAtom(feed.sort())) {
                tree.insert(node, Kind.APPLIED);
                pile.push(Due.NODE_END, node);
                pile.push(Due.ATOMS, NONE);
            }
        }

        private void meetAtoms() {
            if (Sort.beginsAtom(feed.sort())) {
                pile.push(Due.ATOMS, NONE);
                pile.push(Due.ATOM, NONE);
            }
        }

        /** An ATOM, whose first TOKEN was looked at. */
        private void meetAtom() {
            int sort = feed.sort();
            if (sort != Sort.ROUND_OPEN && sort != Sort.SQUARE_OPEN) {
                takeLeaf(Kind.ofLeaf(sort));
                return;
            }
            enter();
            feed.take();
            int node = tree.add(sort == Sort.ROUND_OPEN ? Kind.TUPLE : Kind.LIST);
            if (feed.sort() == closerOf(node)) {
                feed.take();
                openings.leave();
            } else {
                if (sort == Sort.ROUND_OPEN) {
                    tree.setKind(node, Kind.BRACKETS);
                }
                pile.push(Due.ROW, node);
                pile.push(Due.EXPRESSION, NONE);
            }
        }

        private int closerOf(int node) {
            return tree.kindOf(node) == Kind.LIST ? Sort.SQUARE_CLOSE : Sort.ROUND_CLOSE;
        }

        private void meetRow(int node) {
            if (feed.sort() != Sort.COMMA) {
                pile.push(Due.OPENED_END, node);
                pile.push(closerOf(node), NONE);
                return;
            }
            feed.take();
            if (tree.kindOf(node) == Kind.BRACKETS) {
                tree.setKind(node, Kind.TUPLE);
            }
            pile.push(Due.ROW, node);
            pile.push(Due.EXPRESSION, NONE);
        }
    }

    /** NODES in their order, each with how many it is; names and NUMBERS are told by places. */
    private static final class Tree {
        // A LEXEME makes two NODES at most (do: DO and BLOCK), and PROGRAM is one.
        private static final int MOST = 2 * Lexemes.MOST + 1;

        private final int[] kinds;
        private final int[] sizes;
        private final int[] parents;
        private final int[] places;
        private final int[] lengths;
        // THE TEXT as it was read, since it may change while THE TREE stays.
        private final char[] letters;
        private int size;

        Tree() {
            kinds = new int[MOST];
            sizes = new int[MOST];
            parents = new int[MOST];
            places = new int[MOST];
            lengths = new int[MOST];
            letters = new char[Text.MOST];
        }

        int size() {
            return size;
        }

        boolean has(int i) {
            return i >= 0 && i < size;
        }

        void empty() {
            size = 0;
        }

        int add(int kind) {
            return addWritten(kind, 0, 0);
        }

        int addWritten(int kind, int place, int length) {
            int start = size;
            if (size < MOST) {
                kinds[size] = kind;
                sizes[size] = 1;
                places[size] = place;
                lengths[size] = length;
                size++;
            }
            return start;
        }

        /** A NODE comes ahead of those from start on, which are in it. */
        void insert(int start, int kind) {
            if (start < 0 || start >= size || size >= MOST) {
                return;
            }
            int many = size - start;
            System.arraycopy(kinds, start, kinds, start + 1, many);
            System.arraycopy(sizes, start, sizes, start + 1, many);
            System.arraycopy(places, start, places, start + 1, many);
            System.arraycopy(lengths, start, lengths, start + 1, many);
            kinds[start] = kind;
            places[start] = 0;
            lengths[start] = 0;
            size++;
            close(start);
        }

        void close(int start) {
            if (has(start)) {
                sizes[start] = size - start;
            }
        }

        void setKind(int i, int kind) {
            if (has(i)) {
                kinds[i] = kind;
            }
        }

        /** Whether the expression from start up to the last NODE is a WHOLE pattern, too. */
        boolean isWholePattern(int start) {
            for (int i = Math.max(0, start); i < size; i++) {
                switch (kinds[i]) {
                    case Kind.NAME:
                    case Kind.CON:
                    case Kind.NUMBER:
                    case Kind.BRACKETS:
                        break;
                    case Kind.APPLIED:
                        if (kindOf(i + 1) != Kind.CON) {
                            return false;
                        }
                        break;
                    default:
                        return false;
                }
            }
            return true;
        }

        void keep(Text text) {
            text.copyTo(letters);
            if (size > 0) {
                parents[0] = NONE;
            }
            for (int i = 0; i < size; i++) {
                int end = endOf(i);
                for (int j = i + 1; j < end; j += Math.max(1, sizeOf(j))) {
                    parents[j] = i;
                }
            }
        }

        int kindOf(int i) {
            return has(i) ? kinds[i] : NONE;
        }

        int parentOf(int i) {
            return has(i) ? parents[i] : NONE;
        }

        int sizeOf(int i) {
            return has(i) ? sizes[i] : 0;
        }

        int endOf(int i) {
            return Math.min(size, i + sizeOf(i));
        }

        int nameLengthOf(int i) {
            return has(i) && Kind.isNamed(kinds[i]) ? lengths[i] : 0;
        }

        int nameByte(int i, int k) {
            return k >= 0 && k < nameLengthOf(i) ? writtenByte(i, k) : NONE;
        }

        int numberOf(int i) {
            int number = 0;
            if (kindOf(i) == Kind.NUMBER) {
                for (int k = 0; k < lengths[i]; k++) {
                    number = 10 * number + (writtenByte(i, k) - '0');
                }
            }
            return number;
        }

        /** The k-th NODE in NODE i. */
        int part(int i, int k) {
            int end = endOf(i);
            int j = i + 1;
            for (int passed = 0; passed < k && j < end; passed++) {
                j += Math.max(1, sizeOf(j));
            }
            return k >= 0 && j < end ? j : NONE;
        }

        private int writtenByte(int i, int k) {
            int place = has(i) ? places[i] + k : NONE;
            return place >= 0 && place < letters.length ? letters[place] : NONE;
        }
    }

    /** WRITING: THE TREE becomes bytes in a row of its own, since THE TEXT stays if it is FULL. */
    private static final class Writer {
        // 30 open within one another make three NODES each at most, and some around them.
        private static final int MOST_LEVELS = 120;
        private static final int FIRST_POWER = 100000;

        private final char[] bytes;
        private int length;
        private Tree tree;
        private boolean byColumns;
        // The next TOKEN is the first of a line that has its spaces already.
        private boolean lineBegins;
        // A block in lines has just ended: the next TOKEN begins a line.
        private boolean blockEnded;

        Writer(Tree source) {
            bytes = new char[Text.MOST];
            tree = source;
        }

        void compose(Tree source, boolean inColumns) {
            tree = source;
            byColumns = inColumns;
            length = 0;
            lineBegins = true;
            blockEnded = false;
            if (byColumns) {
                putLines(0, 1, 0);
            } else {
                putBraces(0, 1, 0);
            }
        }

        /** Whether THE TEXT could become what was composed. */
        boolean handOver(Text text) {
            if (length > Text.MOST) {
                return false;
            }
            text.become(bytes, length);
            return true;
        }

        private void put(int value) {
            if (length < bytes.length) {
                bytes[length] = (char) (value & 255);
            }
            length++;
        }

        private void beginLine(int column) {
            if (length > 0) {
                put('\n');
            }
            for (int k = 1; k < column; k++) {
                put(' ');
            }
            lineBegins = true;
            blockEnded = false;
        }

        /** What stands ahead of a TOKEN in a thing of the block at that COLUMN. */
        private void beginToken(int column) {
            if (blockEnded) {
                beginLine(column + 2);
            } else if (!lineBegins) {
                put(' ');
            }
            lineBegins = false;
        }

        private void putWord(String word, int column) {
            beginToken(column);
            for (int k = 0; k < word.length(); k++) {
                put(word.charAt(k));
            }
        }

        private void putName(int i, int column) {
            beginToken(column);
            int many = tree.nameLengthOf(i);
            for (int k = 0; k < many; k++) {
                put(tree.nameByte(i, k));
            }
        }

        private void putNumber(int i, int column) {
            beginToken(column);
            int number = tree.numberOf(i);
            for (int power = FIRST_POWER; power >= 1; power /= 10) {
                if (number >= power || power == 1) {
                    put('0' + number / power % 10);
                }
            }
        }

        private void putLines(int i, int column, int level) {
            int end = tree.endOf(i);
            for (int j = i + 1; j < end; j += Math.max(1, tree.sizeOf(j))) {
                beginLine(column);
                putNode(j, column, level + 1);
            }
            blockEnded = true;
        }

        private void putBraces(int i, int column, int level) {
            putWord("{", column);
            putParts(i, ";", column, level);
            putWord("}", column);
        }

        private void putBlock(int i, int column, int level) {
            if (byColumns && tree.endOf(i) > i + 1) {
                putLines(i, column + 4, level);
            } else {
                putBraces(i, column, level);
            }
        }

        /** The NODES in NODE i with a sign, if it is not empty, between each two. */
        private void putParts(int i, String sign, int column, int level) {
            int end = tree.endOf(i);
            for (int j = i + 1; j < end; j += Math.max(1, tree.sizeOf(j))) {
                if (j > i + 1 && !sign.isEmpty()) {
                    putWord(sign, column);
                }
                putNode(j, column, level + 1);
            }
        }

        /** Patterns, the sign, the expression, and, if there is a BLOCK, where. */
        private void putBody(int i, String sign, int column, int level) {
            int end = tree.endOf(i);
            for (int j = i + 1; j < end; j += Math.max(1, tree.sizeOf(j))) {
                int next = tree.endOf(j);
                if (tree.kindOf(j) == Kind.BLOCK) {
                    putWord("where", column);
                } else if (next >= end || tree.kindOf(next) == Kind.BLOCK) {
                    putWord(sign, column);
                }
                putNode(j, column, level + 1);
            }
        }

        /** A word ahead of each of the NODES in NODE i; an empty one: none. */
        private void putWorded(int i, String first, String second, String third,
                int column, int level) {
            int end = tree.endOf(i);
            int number = 0;
            for (int j = i + 1; j < end; j += Math.max(1, tree.sizeOf(j))) {
                putWord(number == 0 ? first : number == 1 ? second : third, column);
                putNode(j, column, level + 1);
                number++;
            }
        }

        private void putNode(int i, int column, int level) {
            if (level > MOST_LEVELS) {
                return;
            }
            switch (tree.kindOf(i)) {
                case Kind.NAME:
                case Kind.CON:
                case Kind.OPERATOR:
                    putName(i, column);
                    break;
                case Kind.NUMBER:
                    putNumber(i, column);
                    break;
                case Kind.CHAIN:
                case Kind.APPLIED:
                    putParts(i, "", column, level);
                    break;
                case Kind.BRACKETS:
                case Kind.TUPLE:
                    putWord("(", column);
                    putParts(i, ",", column, level);
                    putWord(")", column);
                    break;
                case Kind.LIST:
                    putWord("[", column);
                    putParts(i, ",", column, level);
                    putWord("]", column);
                    break;
                case Kind.BLOCK:
                    putBlock(i, column, level);
                    break;
                default:
                    putThing(i, column, level);
                    break;
            }
        }

        private void putThing(int i, int column, int level) {
            switch (tree.kindOf(i)) {
                case Kind.DECLARATION:
                    putName(i, column);
                    putBody(i, "=", column, level);
                    break;
                case Kind.LAMBDA:
                    putWord("\\", column);
                    putBody(i, "->", column, level);
                    break;
                case Kind.ALTERNATIVE:
                    putBody(i, "->", column, level);
                    break;
                case Kind.TAKING:
                    putBody(i, "<-", column, level);
                    break;
                case Kind.IF:
                    putWorded(i, "if", "then", "else", column, level);
                    break;
                case Kind.CASE:
                    putWorded(i, "case", "of", "", column, level);
                    break;
                case Kind.DO:
                    putWorded(i, "do", "", "", column, level);
                    break;
                case Kind.LET:
                case Kind.LETTING:
                    putWorded(i, "let", "in", "", column, level);
                    break;
                default:
                    break;
            }
        }
    }
}
