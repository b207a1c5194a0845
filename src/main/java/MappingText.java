import java.util.Arrays;

/**
 * Rows of tables that become triples by mappings told in a text.
 * Every array is made with the object and used again, so that no call makes an object.
 */
public final class MappingText {
    public static final int BAD = -1;
    public static final int FULL = -2;
    public static final int NO = -3;

    private static final int MOST_SOURCES = 4;
    private static final int MOST_COLUMNS = 4;
    private static final int MOST_ROWS = 16;
    private static final int MOST_BYTES = 500;
    private static final int MOST_MAPPINGS = 6;
    private static final int MOST_PIECES = 30;
    private static final int MOST_NAME_BYTES = 20;
    private static final int MOST_TYPED = 8;
    private static final int MOST_DIGITS = 4;
    private static final int HIGHEST_CELL = 9999;
    private static final int GRAPHS = 10;
    private static final int NULL = -1;
    private static final int NONE = -1;

    private static final int NAME = 0;
    private static final int BLANK = 1;
    private static final int VALUE = 2;
    private static final int TERMS = 3;

    private static final int WRONG = -10;
    private static final int MAY_NOT = -1000;

    // The kinds of tokens: a sign's kind is its byte, a word's its letters with eight bits each, so that a word that
    // means nothing needs no list to be known by: its kind is none that is ever asked for.
    private static final int END = -1;
    private static final int NO_TOKEN = 0;
    private static final int NUMBER = 1;
    private static final int MAP = ('m' << 8 | 'a') << 8 | 'p';
    private static final int IF = 'i' << 8 | 'f';
    private static final int IN = 'i' << 8 | 'n';
    private static final int OF = 'o' << 8 | 'f';
    private static final int BY = 'b' << 8 | 'y';
    private static final int NULL_WORD = (('n' << 8 | 'u') << 8 | 'l') << 8 | 'l';
    private static final int LONGEST_WORD = 4;

    private final Sources sources;
    private final Reading reading;
    private final Given given;
    private final Printed printed;
    private Mappings mappings;
    /** Where a text is read to, as one that fails leaves the mappings alone. */
    private Mappings spare;

    public MappingText() {
        sources = new Sources();
        reading = new Reading();
        given = new Given();
        printed = new Printed();
        mappings = new Mappings();
        spare = new Mappings();
    }

    public int source(int columns) {
        if (columns < 1 || columns > MOST_COLUMNS) {
            return BAD;
        }
        return sources.addSource(columns);
    }

    public int row(int source, int a, int b, int c, int d) {
        int columns = sources.columnsOf(source);
        if (columns == 0 || a > HIGHEST_CELL || columns > 1 && b > HIGHEST_CELL
                || columns > 2 && c > HIGHEST_CELL || columns > 3 && d > HIGHEST_CELL) {
            return BAD;
        }
        int number = sources.addRow(source);
        if (number < 0) {
            return FULL;
        }
        sources.setCell(source, number, 0, a);
        sources.setCell(source, number, 1, b);
        sources.setCell(source, number, 2, c);
        sources.setCell(source, number, 3, d);
        given.stale = true;
        return number;
    }

    public int change(int source, int row, boolean there) {
        if (!sources.hasRow(source, row)) {
            return BAD;
        }
        if (sources.isThere(source, row) == there) {
            return 0;
        }
        given.make(mappings, sources);
        int before = given.tripleCount;
        sources.setThere(source, row, there);
        given.stale = true;
        given.make(mappings, sources);
        // One row can't make some triples come and others go: what it gives is all there or all not.
        return Math.abs(given.tripleCount - before);
    }

    public int type(long bytes, int n) {
        if (n < 1 || n > MOST_TYPED) {
            return BAD;
        }
        return reading.tokens.append(bytes, n);
    }

    public int read() {
        int answer = reading.readAll(sources, spare);
        reading.tokens.clear();
        if (answer >= 0) {
            Mappings old = mappings;
            mappings = spare;
            spare = old;
            given.stale = true;
        }
        return answer;
    }

    public int triples() {
        given.make(mappings, sources);
        return given.tripleCount;
    }

    public int triple(int i, int what) {
        if (what < 0 || what > 9) {
            return BAD;
        }
        given.make(mappings, sources);
        if (!given.hasTriple(i)) {
            return NO;
        }
        if (what < TERMS) {
            return given.kindOf(i, what);
        }
        if (what < 2 * TERMS) {
            return given.lengthOf(i, what - TERMS);
        }
        switch (what) {
            case 6:
                return given.graphOf(i);
            case 7:
                return given.waysOf(i);
            case 8:
                return given.leastMapping(i);
            default:
                return given.leastRow(i);
        }
    }

    public int byteOf(int i, int term, int k) {
        given.make(mappings, sources);
        if (!given.hasTriple(i) || term < 0 || term >= TERMS || k < 0 || k >= given.lengthOf(i, term)) {
            return BAD;
        }
        return given.termByte(i, term, k);
    }

    public int which(int mapping, int row, int other) {
        if (mapping < 0 || mapping >= mappings.count) {
            return BAD;
        }
        Mapping m = mappings.list[mapping];
        if (!sources.hasRow(m.source, row) || m.isJoin() && !sources.hasRow(m.joined, other)) {
            return BAD;
        }
        given.make(mappings, sources);
        int number = given.tripleBy(Given.wayOf(mapping, row, m.isJoin() ? other : 0));
        return number < 0 ? NO : number;
    }

    public int bads() {
        given.make(mappings, sources);
        return given.badCount;
    }

    public int bad(int i, int what) {
        if (what < 0 || what > 2) {
            return BAD;
        }
        given.make(mappings, sources);
        if (i < 0 || i >= given.badCount) {
            return NO;
        }
        if (what == 2) {
            return given.badNames[i];
        }
        return what == 0 ? given.badPairs[i] / MOST_ROWS : given.badPairs[i] % MOST_ROWS;
    }

    public int print() {
        printed.clear();
        for (int i = 0; i < mappings.count; i++) {
            printed.putMapping(mappings.list[i]);
        }
        return printed.length;
    }

    public int at(int i) {
        if (i < 0 || i >= printed.length) {
            return BAD;
        }
        return printed.bytes[i];
    }

    /** The sources with their rows. */
    private static final class Sources {
        final int[] columns = new int[MOST_SOURCES];
        final int[] rows = new int[MOST_SOURCES];
        final boolean[] there = new boolean[MOST_SOURCES * MOST_ROWS];
        final int[] cells = new int[MOST_SOURCES * MOST_ROWS * MOST_COLUMNS];
        int count = 0;

        int addSource(int width) {
            if (count >= MOST_SOURCES) {
                return FULL;
            }
            columns[count] = width;
            count++;
            return count - 1;
        }

        /** 0 when there is no such source. */
        int columnsOf(int source) {
            return source < 0 || source >= count ? 0 : columns[source];
        }

        /** 0 when there is no such source. */
        int rowsOf(int source) {
            return source < 0 || source >= count ? 0 : rows[source];
        }

        boolean hasRow(int source, int row) {
            return row >= 0 && row < rowsOf(source);
        }

        int addRow(int source) {
            if (source < 0 || source >= count || rows[source] >= MOST_ROWS) {
                return NONE;
            }
            int row = rows[source];
            rows[source] = row + 1;
            there[source * MOST_ROWS + row] = true;
            return row;
        }

        boolean isThere(int source, int row) {
            return hasRow(source, row) && there[source * MOST_ROWS + row];
        }

        void setThere(int source, int row, boolean now) {
            if (hasRow(source, row)) {
                there[source * MOST_ROWS + row] = now;
            }
        }

        void setCell(int source, int row, int column, int cell) {
            int index = cellIndex(source, row, column);
            if (index != NONE) {
                cells[index] = cell < 0 ? NULL : cell;
            }
        }

        int cell(int source, int row, int column) {
            int index = cellIndex(source, row, column);
            return index == NONE ? NULL : cells[index];
        }

        private int cellIndex(int source, int row, int column) {
            if (source < 0 || source >= count || row < 0 || row >= rows[source]
                    || column < 0 || column >= columns[source]) {
                return NONE;
            }
            return (source * MOST_ROWS + row) * MOST_COLUMNS + column;
        }
    }

    /** What a mapping says of one of its three terms. */
    private static final class Part {
        int kind = NAME;
        /** That of a blank or a value. */
        int column = 0;
        /** Those of a template: a byte, or a column's number, which is below every byte that may stand. */
        final int[] pieces = new int[MOST_PIECES];
        int count = 0;

        void addPiece(int piece) {
            if (count < MOST_PIECES) {
                pieces[count] = piece;
                count++;
            }
        }

        static boolean isColumn(int piece) {
            return piece < MOST_COLUMNS;
        }

        boolean wantsNull(Sources sources, int source, int row) {
            if (kind != NAME) {
                return sources.cell(source, row, column) == NULL;
            }
            for (int i = 0; i < count; i++) {
                if (isColumn(pieces[i]) && sources.cell(source, row, pieces[i]) == NULL) {
                    return true;
                }
            }
            return false;
        }
    }

    /** A mapping as it was read. */
    private static final class Mapping {
        int source = 0;
        final Part first = new Part();
        final Part second = new Part();
        final Part third = new Part();
        /** The source behind of, NONE without. */
        int joined = NONE;
        int columnHere = 0;
        int columnThere = 0;
        /** The kind of the condition's sign or of its word, NONE without a condition. */
        int test = NONE;
        int testColumn = 0;
        int testNumber = 0;
        /** NONE without in. */
        int graph = NONE;

        void clear() {
            joined = NONE;
            test = NONE;
            graph = NONE;
        }

        boolean isJoin() {
            return joined != NONE;
        }

        boolean holds(Sources sources, int row) {
            if (test == NONE) {
                return true;
            }
            int cell = sources.cell(source, row, testColumn);
            if (test == NULL_WORD || cell == NULL) {
                return test == NULL_WORD && cell == NULL;
            }
            return test == '=' ? cell == testNumber : test == '<' ? cell < testNumber : cell > testNumber;
        }

        boolean namesWantNull(Sources sources, int row) {
            return first.wantsNull(sources, source, row) || second.wantsNull(sources, source, row)
                    || third.kind != VALUE && third.wantsNull(sources, source, row);
        }

        boolean joins(Sources sources, int row, int other) {
            int key = sources.cell(source, row, columnHere);
            return key != NULL && sources.isThere(joined, other)
                    && sources.cell(joined, other, columnThere) == key;
        }
    }

    /** The mappings of one text. */
    private static final class Mappings {
        final Mapping[] list = new Mapping[MOST_MAPPINGS];
        int count = 0;

        Mappings() {
            for (int i = 0; i < MOST_MAPPINGS; i++) {
                list[i] = new Mapping();
            }
        }
    }

    /** The text, and the token of it that is looked at. */
    private static final class Tokens {
        final int[] bytes = new int[MOST_BYTES];
        int length = 0;
        /** The first byte that was not taken yet. */
        int place = 0;
        int start = 0;
        int kind = END;
        int number = 0;

        int append(long typed, int n) {
            if (n > MOST_BYTES - length) {
                return FULL;
            }
            for (int i = n - 1; i >= 0; i--) {
                bytes[length] = (int) (typed >> 8 * i) & 255;
                length++;
            }
            return length;
        }

        void clear() {
            length = 0;
            place = 0;
        }

        int byteHere() {
            return place < 0 || place >= length ? END : bytes[place];
        }

        void next() {
            skipBlanks();
            start = place;
            int b = byteHere();
            if (b >= 'a' && b <= 'z') {
                takeWord();
            } else if (b >= '0' && b <= '9') {
                kind = NUMBER;
                takeDigits();
            } else if (b == END) {
                kind = END;
            } else {
                kind = isSign(b) ? b : NO_TOKEN;
                place++;
            }
        }

        private void skipBlanks() {
            while (place < length && (bytes[place] == ' ' || bytes[place] == 10)) {
                place++;
            }
        }

        private static boolean isSign(int b) {
            return b == ':' || b == '.' || b == '$' || b == '_' || b == '=' || b == '<' || b == '>' || b == '"';
        }

        private void takeWord() {
            kind = 0;
            while (place < length && bytes[place] >= 'a' && bytes[place] <= 'z') {
                kind = kind << 8 | bytes[place];
                place++;
            }
            if (place - start > LONGEST_WORD) {
                kind = NO_TOKEN;
            }
        }

        /** Takes a number's digits from the place on: how many there were. */
        int takeDigits() {
            number = 0;
            int taken = 0;
            while (taken < MOST_DIGITS && place < length && bytes[place] >= '0' && bytes[place] <= '9') {
                number = 10 * number + bytes[place] - '0';
                place++;
                taken++;
            }
            return taken;
        }
    }

    /** Reads a text by its grammar; each step answers whether it could be taken, and notes the fault if not. */
    private static final class Reading {
        final Tokens tokens = new Tokens();
        private int fault = 0;

        /** How many mappings there are, or the fault. */
        int readAll(Sources sources, Mappings into) {
            into.count = 0;
            tokens.next();
            for (int i = 0; i < MOST_MAPPINGS && tokens.kind == MAP; i++) {
                if (!takeMapping(into.list[i], sources)) {
                    return fault;
                }
                into.count = i + 1;
            }
            if (tokens.kind == END) {
                return into.count;
            }
            return (tokens.kind == MAP ? MAY_NOT : WRONG) - tokens.start;
        }

        private boolean wrong(int place) {
            fault = WRONG - place;
            return false;
        }

        private boolean mayNot(int place) {
            fault = MAY_NOT - place;
            return false;
        }

        private boolean nextIs(int kind) {
            tokens.next();
            return tokens.kind == kind || wrong(tokens.start);
        }

        private boolean nextIsNumberBelow(int limit) {
            tokens.next();
            if (tokens.kind != NUMBER) {
                return wrong(tokens.start);
            }
            return tokens.number < limit || mayNot(tokens.start);
        }

        /** Begins at the word map; like all that may end with an open choice, leaves the token behind it standing. */
        private boolean takeMapping(Mapping m, Sources sources) {
            m.clear();
            if (!nextIsNumberBelow(sources.count)) {
                return false;
            }
            m.source = tokens.number;
            int columns = sources.columnsOf(m.source);
            if (!nextIs(':')) {
                return false;
            }
            tokens.next();
            if (!takeName(m.first, columns) || !nextIs('"') || !takeTemplate(m.second, columns)) {
                return false;
            }
            tokens.next();
            if (!takeObject(m, sources, columns)) {
                return false;
            }
            if (tokens.kind == IF && !takeCondition(m, columns)) {
                return false;
            }
            if (tokens.kind == IN && !takeGraph(m)) {
                return false;
            }
            if (tokens.kind != '.') {
                return wrong(tokens.start);
            }
            tokens.next();
            return true;
        }

        private boolean takeName(Part part, int columns) {
            if (tokens.kind == '"') {
                return takeTemplate(part, columns);
            }
            if (tokens.kind != '_') {
                return wrong(tokens.start);
            }
            if (!nextIsNumberBelow(columns)) {
                return false;
            }
            part.kind = BLANK;
            part.column = tokens.number;
            return true;
        }

        /** Begins behind the first quote. */
        private boolean takeTemplate(Part part, int columns) {
            part.kind = NAME;
            part.count = 0;
            for (int turn = 0; turn <= MOST_PIECES; turn++) {
                int b = tokens.byteHere();
                if (b == '"') {
                    tokens.place++;
                    return true;
                }
                if (b < ' ' || b > '~' || b == '}') {
                    return wrong(tokens.place);
                }
                if (part.count < MOST_PIECES && !takePiece(part, columns)) {
                    return false;
                }
            }
            // The last turn took nothing, as the template was full then.
            return mayNot(tokens.place);
        }

        private boolean takePiece(Part part, int columns) {
            int piece = tokens.byteHere();
            tokens.place++;
            if (piece == '{') {
                int start = tokens.place;
                if (tokens.takeDigits() == 0) {
                    return wrong(start);
                }
                if (tokens.number >= columns) {
                    return mayNot(start);
                }
                if (tokens.byteHere() != '}') {
                    return wrong(tokens.place);
                }
                tokens.place++;
                piece = tokens.number;
            } else if (piece == '\\') {
                piece = tokens.byteHere();
                if (!needsEscape(piece)) {
                    return wrong(tokens.place);
                }
                tokens.place++;
            }
            part.addPiece(piece);
            return true;
        }

        private boolean takeObject(Mapping m, Sources sources, int columns) {
            if (tokens.kind != '$') {
                if (!takeName(m.third, columns)) {
                    return false;
                }
                tokens.next();
                return true;
            }
            if (!nextIsNumberBelow(MOST_COLUMNS)) {
                return false;
            }
            int columnStart = tokens.start;
            m.third.kind = VALUE;
            m.third.column = tokens.number;
            tokens.next();
            if (tokens.kind == OF) {
                return takeJoin(m, sources, columns, columnStart);
            }
            return m.third.column < columns || mayNot(columnStart);
        }

        private boolean takeJoin(Mapping m, Sources sources, int columns, int columnStart) {
            if (!nextIsNumberBelow(sources.count)) {
                return false;
            }
            if (tokens.number == m.source) {
                return mayNot(tokens.start);
            }
            m.joined = tokens.number;
            int columnsThere = sources.columnsOf(m.joined);
            if (m.third.column >= columnsThere) {
                return mayNot(columnStart);
            }
            if (!nextIs(BY) || !nextIsNumberBelow(columns)) {
                return false;
            }
            m.columnHere = tokens.number;
            if (!nextIsNumberBelow(columnsThere)) {
                return false;
            }
            m.columnThere = tokens.number;
            tokens.next();
            return true;
        }

        private boolean takeCondition(Mapping m, int columns) {
            tokens.next();
            boolean isNull = tokens.kind == NULL_WORD;
            if (isNull) {
                tokens.next();
            }
            if (tokens.kind != '$') {
                return wrong(tokens.start);
            }
            if (!nextIsNumberBelow(columns)) {
                return false;
            }
            m.test = NULL_WORD;
            m.testColumn = tokens.number;
            if (!isNull) {
                tokens.next();
                if (tokens.kind != '=' && tokens.kind != '<' && tokens.kind != '>') {
                    return wrong(tokens.start);
                }
                m.test = tokens.kind;
                if (!nextIs(NUMBER)) {
                    return false;
                }
                m.testNumber = tokens.number;
            }
            tokens.next();
            return true;
        }

        private boolean takeGraph(Mapping m) {
            if (!nextIsNumberBelow(GRAPHS)) {
                return false;
            }
            m.graph = tokens.number;
            tokens.next();
            return true;
        }
    }

    private static boolean needsEscape(int b) {
        return b == '"' || b == '\\' || b == '{' || b == '}';
    }

    /** Somewhere that bytes are put to. */
    private abstract static class Sink {
        abstract void put(int b);

        void putNumber(int n) {
            if (n >= 1000) {
                put('0' + n / 1000 % 10);
            }
            if (n >= 100) {
                put('0' + n / 100 % 10);
            }
            if (n >= 10) {
                put('0' + n / 10 % 10);
            }
            put('0' + n % 10);
        }
    }

    /**
     * Terms of mappings' rows. A term is three words of seven bytes each, filled up with 0s, with its kind above the
     * first: so the order of terms is the order of their words as numbers.
     */
    private static final class Terms extends Sink {
        static final int WORDS = 3;
        static final int WORD_BYTES = 7;
        static final int MOST = MOST_MAPPINGS * MOST_ROWS * TERMS;
        /** A place behind the terms for one that is not kept. */
        static final int ASIDE = MOST;

        final long[] words = new long[(MOST + 1) * WORDS];
        private int base = 0;
        /** How many bytes were put to the term; those beyond the longest name are counted alone. */
        int length = 0;

        void begin(int term, int kind) {
            base = term < 0 || term > MOST ? ASIDE * WORDS : term * WORDS;
            words[base] = (long) kind << 8 * WORD_BYTES;
            words[base + 1] = 0;
            words[base + 2] = 0;
            length = 0;
        }

        void put(int b) {
            if (length < MOST_NAME_BYTES) {
                words[base + length / WORD_BYTES] |= (long) b << 8 * (WORD_BYTES - 1 - length % WORD_BYTES);
            }
            length++;
        }

        void putPart(Part part, Sources sources, int source, int row) {
            if (part.kind == NAME) {
                for (int i = 0; i < part.count; i++) {
                    int piece = part.pieces[i];
                    if (Part.isColumn(piece)) {
                        putNumber(sources.cell(source, row, piece));
                    } else {
                        put(piece);
                    }
                }
                return;
            }
            if (part.kind == BLANK) {
                putNumber(source);
                put('.');
            }
            putNumber(sources.cell(source, row, part.column));
        }

        /** A value's bytes are four at most, so its first word is all of it. */
        long valueWord(int cell) {
            begin(ASIDE, VALUE);
            putNumber(cell);
            return words[base];
        }
    }

    /**
     * The triples that are given, and the bad rows. A WAY is a mapping, a row of its source and a row joined (0 without
     * a join), as one number.
     */
    private static final class Given {
        static final int MOST_PAIRS = MOST_MAPPINGS * MOST_ROWS;
        static final int MOST_WAYS = MOST_PAIRS * MOST_ROWS;

        private final Terms terms = new Terms();
        /** The first word of a value that comes from a row joined, by ways; 0 for a way without a join. */
        private final long[] joinedWords = new long[MOST_WAYS];
        private final int[] graphs = new int[MOST_MAPPINGS];
        /** The ways by the order of their triples, then as numbers. */
        private final int[] order = new int[MOST_WAYS];
        private final int[] merged = new int[MOST_WAYS];
        private int wayCount = 0;
        /** Where the ways of each triple begin in the order, and behind the last triple their end. */
        private final int[] starts = new int[MOST_WAYS + 1];
        private final int[] tripleOfWay = new int[MOST_WAYS];
        int tripleCount = 0;
        final int[] badPairs = new int[MOST_PAIRS];
        final int[] badNames = new int[MOST_PAIRS];
        int badCount = 0;
        /** Whether something changed since the triples were made. */
        boolean stale = false;

        static int wayOf(int mapping, int row, int other) {
            return (mapping * MOST_ROWS + row) * MOST_ROWS + other;
        }

        /** Makes the triples again where something changed; what asks for them calls this first. */
        void make(Mappings mappings, Sources sources) {
            if (!stale) {
                return;
            }
            stale = false;
            wayCount = 0;
            badCount = 0;
            Arrays.fill(tripleOfWay, NONE);
            for (int i = 0; i < mappings.count; i++) {
                Mapping m = mappings.list[i];
                graphs[i] = m.graph == NONE ? 0 : m.graph;
                for (int row = 0; row < sources.rowsOf(m.source); row++) {
                    if (sources.isThere(m.source, row) && m.holds(sources, row) && !m.namesWantNull(sources, row)) {
                        giveRow(m, i * MOST_ROWS + row, sources, row);
                    }
                }
            }
            sortWays();
            numberTriples();
        }

        private void giveRow(Mapping m, int pair, Sources sources, int row) {
            int badName = putNames(m, pair * TERMS, sources, row);
            if (badName != NONE) {
                addBad(pair, badName);
            } else if (m.isJoin()) {
                joinRow(m, pair, sources, row);
            } else if (m.third.kind != VALUE) {
                addWay(pair * MOST_ROWS, 0);
            } else if (!m.third.wantsNull(sources, m.source, row)) {
                terms.begin(pair * TERMS + 2, VALUE);
                terms.putPart(m.third, sources, m.source, row);
                addWay(pair * MOST_ROWS, 0);
            }
        }

        /** The first of the names that is empty or too long, or NONE. */
        private int putNames(Mapping m, int term, Sources sources, int row) {
            for (int i = 0; i < TERMS; i++) {
                Part part = i == 0 ? m.first : i == 1 ? m.second : m.third;
                if (part.kind != VALUE) {
                    terms.begin(term + i, part.kind);
                    terms.putPart(part, sources, m.source, row);
                    if (terms.length == 0 || terms.length > MOST_NAME_BYTES) {
                        return i;
                    }
                }
            }
            return NONE;
        }

        private void joinRow(Mapping m, int pair, Sources sources, int row) {
            for (int other = 0; other < sources.rowsOf(m.joined); other++) {
                int cell = sources.cell(m.joined, other, m.third.column);
                if (cell != NULL && m.joins(sources, row, other)) {
                    addWay(pair * MOST_ROWS + other, terms.valueWord(cell));
                }
            }
        }

        private void addBad(int pair, int name) {
            if (badCount < MOST_PAIRS) {
                badPairs[badCount] = pair;
                badNames[badCount] = name;
                badCount++;
            }
        }

        private void addWay(int way, long joinedWord) {
            if (wayCount < MOST_WAYS && way >= 0 && way < MOST_WAYS) {
                joinedWords[way] = joinedWord;
                order[wayCount] = way;
                wayCount++;
            }
        }

        /** Merges ever longer runs; ways of the same triple keep their order. */
        private void sortWays() {
            for (int width = 1; width < wayCount; width *= 2) {
                for (int from = 0; from < wayCount; from += 2 * width) {
                    mergeRuns(from, Math.min(from + width, wayCount), Math.min(from + 2 * width, wayCount));
                }
                System.arraycopy(merged, 0, order, 0, wayCount);
            }
        }

        private void mergeRuns(int from, int middle, int end) {
            int left = from;
            int right = middle;
            for (int to = from; to < end; to++) {
                if (right >= end || left < middle && compareWays(order[left], order[right]) <= 0) {
                    merged[to] = order[left];
                    left++;
                } else {
                    merged[to] = order[right];
                    right++;
                }
            }
        }

        private int compareWays(int a, int b) {
            for (int term = 0; term < TERMS; term++) {
                for (int k = 0; k < Terms.WORDS; k++) {
                    int compared = Long.compare(wordOf(a, term, k), wordOf(b, term, k));
                    if (compared != 0) {
                        return compared;
                    }
                }
            }
            return Integer.compare(graphOfWay(a), graphOfWay(b));
        }

        private long wordOf(int way, int term, int k) {
            if (way < 0 || way >= MOST_WAYS || term < 0 || term >= TERMS || k < 0 || k >= Terms.WORDS) {
                return 0;
            }
            if (term == 2 && joinedWords[way] != 0) {
                return k == 0 ? joinedWords[way] : 0;
            }
            return terms.words[(way / MOST_ROWS * TERMS + term) * Terms.WORDS + k];
        }

        private int graphOfWay(int way) {
            return way < 0 || way >= MOST_WAYS ? 0 : graphs[way / MOST_ROWS / MOST_ROWS];
        }

        private void numberTriples() {
            tripleCount = 0;
            for (int i = 0; i < wayCount; i++) {
                if (i == 0 || compareWays(order[i - 1], order[i]) != 0) {
                    starts[tripleCount] = i;
                    tripleCount++;
                }
                tripleOfWay[order[i]] = tripleCount - 1;
            }
            starts[tripleCount] = wayCount;
        }

        boolean hasTriple(int i) {
            return i >= 0 && i < tripleCount;
        }

        /** The least way by which a triple is given. */
        private int leastWay(int i) {
            return hasTriple(i) ? order[starts[i]] : NONE;
        }

        int kindOf(int i, int term) {
            return (int) (wordOf(leastWay(i), term, 0) >> 8 * Terms.WORD_BYTES);
        }

        /** 0 behind the term's last byte. */
        int termByte(int i, int term, int k) {
            long word = wordOf(leastWay(i), term, k / Terms.WORD_BYTES);
            return (int) (word >> 8 * (Terms.WORD_BYTES - 1 - k % Terms.WORD_BYTES)) & 255;
        }

        int lengthOf(int i, int term) {
            int length = 0;
            while (length < MOST_NAME_BYTES && termByte(i, term, length) != 0) {
                length++;
            }
            return length;
        }

        int graphOf(int i) {
            return graphOfWay(leastWay(i));
        }

        int waysOf(int i) {
            return hasTriple(i) ? starts[i + 1] - starts[i] : 0;
        }

        int leastMapping(int i) {
            return leastWay(i) / MOST_ROWS / MOST_ROWS;
        }

        int leastRow(int i) {
            return leastWay(i) / MOST_ROWS % MOST_ROWS;
        }

        /** NONE when the way gives nothing. */
        int tripleBy(int way) {
            return way < 0 || way >= MOST_WAYS ? NONE : tripleOfWay[way];
        }
    }

    /** What was printed last. */
    private static final class Printed extends Sink {
        /** A mapping has 21 tokens at most, and each takes at most one byte more than in the text. */
        static final int MOST = MOST_BYTES + 21 * MOST_MAPPINGS;

        final int[] bytes = new int[MOST];
        int length = 0;

        void clear() {
            length = 0;
        }

        void put(int b) {
            if (length < MOST) {
                bytes[length] = b;
                length++;
            }
        }

        void putMapping(Mapping m) {
            putToken("map");
            putNumberToken(m.source);
            putToken(":");
            putPart(m.first);
            putPart(m.second);
            putPart(m.third);
            if (m.isJoin()) {
                putToken("of");
                putNumberToken(m.joined);
                putToken("by");
                putNumberToken(m.columnHere);
                putNumberToken(m.columnThere);
            }
            if (m.test != NONE) {
                putCondition(m);
            }
            if (m.graph != NONE) {
                putToken("in");
                putNumberToken(m.graph);
            }
            put('.');
            put(10);
        }

        private void putToken(String token) {
            for (int i = 0; i < token.length(); i++) {
                put(token.charAt(i));
            }
            put(' ');
        }

        private void putNumberToken(int n) {
            putNumber(n);
            put(' ');
        }

        private void putPart(Part part) {
            if (part.kind == NAME) {
                putTemplate(part);
            } else {
                put(part.kind == BLANK ? '_' : '$');
                putNumberToken(part.column);
            }
        }

        private void putTemplate(Part part) {
            put('"');
            for (int i = 0; i < part.count; i++) {
                int piece = part.pieces[i];
                if (Part.isColumn(piece)) {
                    put('{');
                    putNumber(piece);
                    put('}');
                } else {
                    if (needsEscape(piece)) {
                        put('\\');
                    }
                    put(piece);
                }
            }
            put('"');
            put(' ');
        }

        private void putCondition(Mapping m) {
            putToken("if");
            if (m.test == NULL_WORD) {
                putToken("null");
            }
            put('$');
            putNumberToken(m.testColumn);
            if (m.test != NULL_WORD) {
                put(m.test);
                put(' ');
                putNumberToken(m.testNumber);
            }
        }
    }
}
