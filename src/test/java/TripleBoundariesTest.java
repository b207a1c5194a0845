/**
 * The sentences of the document that name a boundary of the sources, their rows, the triples and the bad rows (the
 * Terms, promises 1 to 4 and 7 to 12), a test for each, on both sides of the boundary.
 */
public final class TripleBoundariesTest {
    private static final int BAD = -1;
    private static final int FULL = -2;
    private static final int NO = -3;
    private static final int[] FAR = {Integer.MIN_VALUE, Integer.MIN_VALUE + 1, Integer.MAX_VALUE - 1, Integer.MAX_VALUE};

    private static int wrong = 0;
    private static int checks = 0;
    private static int checksBefore = 0;
    private static int sentences = 0;
    private static String sentence = "";

    public static void main(String[] args) {
        newObject();
        uses();
        fourSources();
        oneToFourColumns();
        sixteenRows();
        rowOfASource();
        cells();
        cellsNotLookedAt();
        rowsThatAreRefused();
        changeAsItWas();
        changeCounts();
        changeOfWhatIsNot();
        graphs();
        digitsOfNames();
        digitsOfBlanks();
        digitsOfValues();
        conditions();
        conditionsOfNulls();
        joinsByKeys();
        joinsOfNulls();
        nullsThatAreWanted();
        badByLength();
        badOnlyWhen();
        badGivesNothing();
        differentTriples();
        orderOfTerms();
        orderOfKinds();
        orderOfBytes();
        triplesAfterOtherReads();
        triplesFromNoneToTheMost();
        tripleBeyondTheEnds();
        tripleWhats();
        tripleWays();
        tripleLeast();
        byteOfBeyondTheEnds();
        whichBeyondTheEnds();
        whichOther();
        whichNone();
        badsFromNoneToTheMost();
        badBeyondTheEnds();
        badNames();
        sentence("");
        System.out.println(wrong == 0 ? sentences + " sentences of the triples hold, by " + checks + " checks"
                : wrong + " answers are not as due");
        if (wrong != 0) {
            System.exit(1);
        }
    }

    // What the tests are told with.

    private static void sentence(String words) {
        if (!sentence.isEmpty()) {
            sentences++;
            if (checks == checksBefore) {
                wrong++;
                System.out.println("\"" + sentence + "\" was not tested");
            }
        }
        checksBefore = checks;
        sentence = words;
    }

    private static void due(String call, int got, int want) {
        checks++;
        if (got != want) {
            wrong++;
            System.out.println("\"" + sentence + "\": " + call + " answered " + got + ", due is " + want);
        }
    }

    private static void due(String what, String got, String want) {
        checks++;
        if (!got.equals(want)) {
            wrong++;
            System.out.println("\"" + sentence + "\": " + what + " is <" + got + ">, due is <" + want + ">");
        }
    }

    private static MappingText with(int... columns) {
        MappingText x = new MappingText();
        for (int i = 0; i < columns.length; i++) {
            due("source(" + columns[i] + ")", x.source(columns[i]), i);
        }
        return x;
    }

    private static void reads(MappingText x, String text, int want) {
        for (int from = 0; from < text.length(); from += 8) {
            int n = Math.min(8, text.length() - from);
            long bytes = 0;
            for (int i = 0; i < n; i++) {
                bytes = bytes << 8 | text.charAt(from + i);
            }
            due("type of part of <" + text + ">", x.type(bytes, n), from + n);
        }
        due("read of <" + text + ">", x.read(), want);
    }

    private static String term(MappingText x, int i, int term) {
        int kind = x.triple(i, term);
        StringBuilder told = new StringBuilder(kind >= 0 && kind <= 2 ? "NBV".substring(kind, kind + 1) : "?").append(':');
        int length = x.triple(i, 3 + term);
        for (int k = 0; k < length; k++) {
            told.append((char) x.byteOf(i, term, k));
        }
        return told.toString();
    }

    /** Each triple as its terms and its graph. */
    private static String all(MappingText x) {
        StringBuilder told = new StringBuilder();
        int n = x.triples();
        for (int i = 0; i < n; i++) {
            told.append(i == 0 ? "" : " ").append(term(x, i, 0)).append(',').append(term(x, i, 1)).append(',')
                    .append(term(x, i, 2)).append(',').append(x.triple(i, 6));
        }
        return told.toString();
    }

    private static String firsts(MappingText x) {
        StringBuilder told = new StringBuilder();
        int n = x.triples();
        for (int i = 0; i < n; i++) {
            told.append(i == 0 ? "" : " ").append(term(x, i, 0));
        }
        return told.toString();
    }

    private static void gives(String text, int[][] rows, String want) {
        MappingText x = with(4);
        for (int i = 0; i < rows.length; i++) {
            due("row", x.row(0, rows[i][0], rows[i][1], rows[i][2], rows[i][3]), i);
        }
        int mappings = text.length() - text.replace(".", "").length();
        reads(x, text, mappings);
        due("what is given by " + text, all(x), want);
    }

    private static int[] cells(int a, int b, int c, int d) {
        return new int[] {a, b, c, d};
    }

    // Promise 1, and the number of calls.

    private static void newObject() {
        sentence("No sources, no mappings, an empty text.");
        MappingText x = new MappingText();
        due("row", x.row(0, 1, 1, 1, 1), BAD);
        due("change", x.change(0, 0, true), BAD);
        due("change", x.change(0, 0, false), BAD);
        due("which", x.which(0, 0, 0), BAD);
        due("triples", x.triples(), 0);
        due("triple", x.triple(0, 0), NO);
        due("byteOf", x.byteOf(0, 0, 0), BAD);
        due("bads", x.bads(), 0);
        due("bad", x.bad(0, 0), NO);
        due("print", x.print(), 0);
        due("at", x.at(0), BAD);
        due("read", x.read(), 0);
        due("type", x.type(' ', 1), 1);
        reads(new MappingText(), "map 0", -1004);
        // What one object is told another one does not know.
        MappingText y = with(1, 1);
        due("row", y.row(0, 1, 1, 1, 1), 0);
        due("row of the first object", x.row(0, 1, 1, 1, 1), BAD);
        due("source", new MappingText().source(1), 0);
        due("BAD", MappingText.BAD, BAD);
        due("FULL", MappingText.FULL, FULL);
        due("NO", MappingText.NO, NO);
    }

    private static void uses() {
        sentence("An object is used for at most 512 calls after it has been made");
        MappingText x = new MappingText();
        String text = "map 0:_0 \"p\" $0.";
        for (int i = 0; i < text.length(); i++) {
            due("type", x.type(text.charAt(i), 1), i + 1);
        }
        due("source", x.source(1), 0);
        due("row", x.row(0, 7, 0, 0, 0), 0);
        due("read", x.read(), 1);
        for (int call = text.length() + 4; call < 512; call++) {
            due("change", x.change(0, 0, call % 2 == 1), 1);
        }
        due("the 512th call", x.triples(), 1);
    }

    // Promise 2.

    private static void fourSources() {
        sentence("SOURCES are numbered from 0, at most 4");
        MappingText x = new MappingText();
        for (int i = 0; i < 4; i++) {
            due("a source that is refused has no number", x.source(0), BAD);
            due("row of source " + i + " before it", x.row(i, 1, 1, 1, 1), BAD);
            due("source", x.source(4), i);
            due("row of source " + i, x.row(i, 1, 1, 1, 1), 0);
        }
        due("a fifth source", x.source(4), FULL);
        due("a fifth source", x.source(1), FULL);
        due("a fifth source with no columns", x.source(0), BAD);
        due("a fifth source with five", x.source(5), BAD);
        due("row of source 4", x.row(4, 1, 1, 1, 1), BAD);
    }

    private static void oneToFourColumns() {
        sentence("each has 1 .. 4 COLUMNS (numbered from 0)");
        MappingText x = new MappingText();
        due("source(0)", x.source(0), BAD);
        due("source(-1)", x.source(-1), BAD);
        due("source(5)", x.source(5), BAD);
        due("source(6)", x.source(6), BAD);
        for (int columns : FAR) {
            due("source(" + columns + ")", x.source(columns), BAD);
        }
        for (int columns = 1; columns <= 4; columns++) {
            due("source(" + columns + ")", x.source(columns), columns - 1);
        }
        for (int i = 0; i < 4; i++) {
            reads(x, "map " + i + ":_" + i + " \"p\" $0.", 1);
            reads(x, "map " + i + ":_" + (i + 1) + " \"p\" $0.", -1007);
        }
    }

    // Promise 3.

    private static void sixteenRows() {
        sentence("at most 16 ROWS (numbered from 0, as they come)");
        MappingText x = with(1, 4);
        for (int source = 0; source < 2; source++) {
            for (int i = 0; i < 16; i++) {
                due("row", x.row(source, i, i, i, i), i);
                // One that is not there any more keeps its number.
                due("change", x.change(source, i, i % 2 == 0), 0);
            }
            due("a row too many", x.row(source, 1, 1, 1, 1), FULL);
            due("change of the last one", x.change(source, 15, false), 0);
            due("a row too many still", x.row(source, 1, 1, 1, 1), FULL);
            due("a row too many with a cell above", x.row(source, 10000, 1, 1, 1), BAD);
        }
        reads(x, "map 0:\"{0}\" \"p\" \"o\".", 1);
        due("the rows that are there", firsts(x), "N:0 N:10 N:12 N:14 N:2 N:4 N:6 N:8");
    }

    private static void rowOfASource() {
        sentence("A row of a source that is there");
        MappingText x = with(1);
        reads(x, "map 0:_0 \"p\" \"o\".", 1);
        due("triples before", x.triples(), 0);
        due("row", x.row(0, 5, 0, 0, 0), 0);
        due("it is there at once", x.triples(), 1);
        due("change to what it is", x.change(0, 0, true), 0);
        sentence("BAD: no such source");
        due("row of source 1", x.row(1, 5, 0, 0, 0), BAD);
        due("row of source -1", x.row(-1, 5, 0, 0, 0), BAD);
        for (int source : FAR) {
            due("row of source " + source, x.row(source, 5, 0, 0, 0), BAD);
        }
        due("source", x.source(1), 1);
        due("row of source 1 now", x.row(1, 5, 0, 0, 0), 0);
        due("row of source 2", x.row(2, 5, 0, 0, 0), BAD);
    }

    private static void cells() {
        sentence("a CELL is a number 0 .. 9999 or NULL");
        int[] numbers = {0, 1, 9, 10, 99, 100, 999, 1000, 9998, 9999};
        int[] nulls = {-1, -2, -9999, -10000, Integer.MIN_VALUE};
        int[] above = {10000, 10001, 99999, Integer.MAX_VALUE};
        for (int column = 0; column < 4; column++) {
            MappingText x = with(4);
            int rows = 0;
            reads(x, "map 0:\"v\" \"p\" $" + column + ". map 0:\"n\" \"p\" \"o\" if null $" + column + ".", 2);
            for (int number : numbers) {
                int[] row = {7, 7, 7, 7};
                row[column] = number;
                due("row", x.row(0, row[0], row[1], row[2], row[3]), rows);
                due("it gives a value", x.which(0, rows, 0) >= 0 ? 1 : 0, 1);
                due("its length", x.triple(x.which(0, rows, 0), 5), ("" + number).length());
                due("it is not NULL", x.which(1, rows, 0), NO);
                rows++;
            }
            for (int cell : nulls) {
                int[] row = {7, 7, 7, 7};
                row[column] = cell;
                due("row", x.row(0, row[0], row[1], row[2], row[3]), rows);
                due("it gives no value", x.which(0, rows, 0), NO);
                due("it is NULL", x.which(1, rows, 0), 0);
                rows++;
            }
            for (int cell : above) {
                int[] row = {7, 7, 7, 7};
                row[column] = cell;
                due("row with " + cell, x.row(0, row[0], row[1], row[2], row[3]), BAD);
            }
            due("those that were refused took no number", x.row(0, 7, 7, 7, 7), rows);
        }
    }

    private static void cellsNotLookedAt() {
        sentence("(below 0: NULL; those of columns that it has not are not looked at)");
        for (int width = 1; width <= 4; width++) {
            for (int column = 0; column < 4; column++) {
                int[] row = {1, 2, 3, 4};
                row[column] = 10000;
                due("row with a cell above", with(width).row(0, row[0], row[1], row[2], row[3]), column < width ? BAD : 0);
                row[column] = Integer.MAX_VALUE;
                due("row with a cell far above", with(width).row(0, row[0], row[1], row[2], row[3]), column < width ? BAD : 0);
                row[column] = -1;
                MappingText x = with(width);
                due("row with NULL", x.row(0, row[0], row[1], row[2], row[3]), 0);
                reads(x, "map 0:_" + (width - 1) + " \"p\" \"o\".", 1);
                due("triples", x.triples(), column == width - 1 ? 0 : 1);
            }
        }
    }

    private static void rowsThatAreRefused() {
        sentence("a cell above 9999; FULL.");
        MappingText x = with(2);
        reads(x, "map 0:\"{0}\" \"p\" \"{1}\".", 1);
        due("row", x.row(0, 9999, 10000, 0, 0), BAD);
        due("row", x.row(0, 10000, 9999, 0, 0), BAD);
        due("triples", x.triples(), 0);
        due("change of a row that was refused", x.change(0, 0, true), BAD);
        for (int i = 0; i < 16; i++) {
            due("row", x.row(0, i, 9999, 0, 0), i);
        }
        due("row", x.row(0, 77, 77, 0, 0), FULL);
        due("triples", x.triples(), 16);
        due("which", x.which(0, 16, 0), BAD);
    }

    // Promise 4.

    private static void changeAsItWas() {
        sentence("(0 when it was so)");
        MappingText x = with(1);
        due("row", x.row(0, 1, 0, 0, 0), 0);
        reads(x, "map 0:_0 \"p\" \"o\". map 0:_0 \"q\" \"o\".", 2);
        due("there", x.change(0, 0, true), 0);
        due("not there", x.change(0, 0, false), 2);
        due("not there", x.change(0, 0, false), 0);
        due("triples", x.triples(), 0);
        due("there", x.change(0, 0, true), 2);
        due("there", x.change(0, 0, true), 0);
        due("triples", x.triples(), 2);
    }

    private static void changeCounts() {
        sentence("how many triples came and went by that");
        MappingText x = with(2, 2);
        due("row", x.row(0, 1, 5, 0, 0), 0);
        due("row", x.row(0, 1, 6, 0, 0), 1);
        due("row", x.row(1, 1, 5, 0, 0), 0);
        due("row", x.row(1, 1, 8, 0, 0), 1);
        due("change without mappings", x.change(0, 0, false), 0);
        due("change without mappings", x.change(0, 0, true), 0);
        reads(x, "map 0:_1 \"p\" \"o\". map 0:\"s\" \"p\" \"o\". map 0:\"j\" \"p\" $1 of 1 by 0 0. map 1:\"j\" \"p\" $1.", 4);
        due("triples", x.triples(), 5);
        // Those that are given in another way too do not go.
        due("row 0 goes", x.change(0, 0, false), 1);
        due("row 1 goes", x.change(0, 1, false), 2);
        due("the triples of source 1 stay", all(x), "N:j,N:p,V:5,0 N:j,N:p,V:8,0");
        due("a joined row goes", x.change(1, 1, false), 1);
        due("row 1 comes", x.change(0, 1, true), 2);
        due("a joined row comes", x.change(1, 1, true), 1);
        due("row 0 comes", x.change(0, 0, true), 1);
        due("triples", x.triples(), 5);
        // By joins alone a row of the other source makes many come and go.
        reads(x, "map 0:_1 \"p\" $1 of 1 by 0 0.", 1);
        due("a joined row goes", x.change(1, 0, false), 2);
        due("the other one goes", x.change(1, 1, false), 2);
        due("the first one comes", x.change(1, 0, true), 2);
        due("a bad or a NULL row makes none come", x.row(0, -1, -1, 0, 0), 2);
        due("it goes", x.change(0, 2, false), 0);
        due("it comes", x.change(0, 2, true), 0);
        manyComeAndGo();
    }

    private static void manyComeAndGo() {
        MappingText x = with(2, 2);
        for (int i = 0; i < 16; i++) {
            due("row", x.row(0, i, 1, 0, 0), i);
            due("row", x.row(1, i, 1, 0, 0), i);
        }
        StringBuilder text = new StringBuilder();
        for (int graph = 0; graph < 6; graph++) {
            text.append("map 0:_0 \"p\" $0 of 1 by 1 1 in ").append(graph).append('.');
        }
        reads(x, text.toString(), 6);
        due("triples", x.triples(), 6 * 256);
        due("a row goes", x.change(0, 15, false), 6 * 16);
        due("a joined row goes", x.change(1, 0, false), 6 * 15);
        due("a row comes", x.change(0, 15, true), 6 * 15);
    }

    private static void changeOfWhatIsNot() {
        sentence("A row is there, or not: .. BAD.");
        MappingText x = with(1, 1);
        due("change of a source without rows", x.change(0, 0, true), BAD);
        for (int i = 0; i < 16; i++) {
            due("change of row " + i + " before it", x.change(0, i, i % 2 == 0), BAD);
            due("row", x.row(0, i, 0, 0, 0), i);
            due("change of row " + i, x.change(0, i, false), 0);
        }
        due("change of row 16", x.change(0, 16, true), BAD);
        due("change of row 16", x.change(0, 16, false), BAD);
        due("change of row -1", x.change(0, -1, true), BAD);
        due("change in source 1", x.change(1, 0, true), BAD);
        due("change in source 2", x.change(2, 0, true), BAD);
        due("change in source 4", x.change(4, 0, true), BAD);
        due("change in source -1", x.change(-1, 0, true), BAD);
        due("change in source -1, with a row beyond", x.change(-1, 16, true), BAD);
        for (int far : FAR) {
            due("change of row " + far, x.change(0, far, true), BAD);
            due("change in source " + far, x.change(far, 0, true), BAD);
        }
        reads(x, "map 0:_0 \"p\" \"o\".", 1);
        due("none came by those that were refused", x.triples(), 0);
    }

    // Terms: what a mapping gives.

    private static void graphs() {
        sentence("and a graph (0 without in)");
        gives("map 0:\"s\" \"p\" \"o\".", new int[][] {cells(1, 1, 1, 1)}, "N:s,N:p,N:o,0");
        for (int graph = 0; graph <= 9; graph++) {
            gives("map 0:\"s\" \"p\" \"o\" in " + graph + ".", new int[][] {cells(1, 1, 1, 1)}, "N:s,N:p,N:o," + graph);
        }
        // Without in it is the same as in 0.
        gives("map 0:\"s\" \"p\" \"o\" in 0.map 0:\"s\" \"p\" \"o\".", new int[][] {cells(1, 1, 1, 1)}, "N:s,N:p,N:o,0");
    }

    private static void digitsOfNames() {
        sentence("A template gives a NAME: its bytes, and for a column the cell's digits");
        int[] numbers = {0, 1, 9, 10, 11, 99, 100, 101, 110, 999, 1000, 1001, 1010, 1100, 9999};
        for (int n : numbers) {
            gives("map 0:\"{0}\" \"a{1}b\" \"{2}{3}c\".", new int[][] {cells(n, n, n, 5)}, "N:" + n + ",N:a" + n + "b,N:" + n + "5c,0");
        }
        gives("map 0:\"{3}{3}{3}{0}\" \"-{2}-{1}-\" \"\\{0\\}\".", new int[][] {cells(0, 10, 200, 3000)},
                "N:3000300030000,N:-200-10-,N:{0},0");
    }

    private static void digitsOfBlanks() {
        sentence("_ c gives a BLANK, its bytes are the source's digit, a dot, the cell's digits");
        MappingText x = with(1, 2, 3, 4);
        int[] numbers = {0, 10, 999, 9999};
        for (int source = 0; source < 4; source++) {
            due("row", x.row(source, numbers[source], numbers[source], numbers[source], numbers[source]), 0);
        }
        reads(x, "map 3:_3 \"p\" _0. map 2:_2 \"p\" _0. map 1:_1 \"p\" _0. map 0:_0 \"p\" _0.", 4);
        due("blanks", all(x), "B:0.0,N:p,B:0.0,0 B:1.10,N:p,B:1.10,0 B:2.999,N:p,B:2.999,0 B:3.9999,N:p,B:3.9999,0");
    }

    private static void digitsOfValues() {
        sentence("$ c gives a VALUE, the cell's digits");
        int[] numbers = {0, 1, 10, 100, 1000, 9999, 305};
        for (int n : numbers) {
            gives("map 0:\"s\" \"p\" $3.", new int[][] {cells(1, 2, 3, n)}, "N:s,N:p,V:" + n + ",0");
        }
    }

    private static void conditions() {
        sentence("when its condition holds ($ c = < > a number)");
        int[] numbers = {0, 1, 2, 10, 9998, 9999};
        int[] cells = {0, 1, 2, 3, 9, 10, 11, 9997, 9998, 9999};
        for (int number : numbers) {
            MappingText x = with(2);
            for (int i = 0; i < cells.length; i++) {
                due("row", x.row(0, 5, cells[i], 0, 0), i);
            }
            reads(x, "map 0:\"e\" \"p\" \"o\" if $1 = " + number + ". map 0:\"l\" \"p\" \"o\" if $1 < " + number
                    + ". map 0:\"g\" \"p\" \"o\" if $1 > " + number + ".", 3);
            for (int i = 0; i < cells.length; i++) {
                due(cells[i] + " = " + number, x.which(0, i, 0) != NO ? 1 : 0, cells[i] == number ? 1 : 0);
                due(cells[i] + " < " + number, x.which(1, i, 0) != NO ? 1 : 0, cells[i] < number ? 1 : 0);
                due(cells[i] + " > " + number, x.which(2, i, 0) != NO ? 1 : 0, cells[i] > number ? 1 : 0);
            }
        }
    }

    private static void conditionsOfNulls() {
        sentence("(null $ c: the cell is NULL; others are false for a NULL)");
        MappingText x = with(2);
        due("row", x.row(0, 5, -1, 0, 0), 0);
        due("row", x.row(0, 5, 0, 0, 0), 1);
        due("row", x.row(0, -1, 9999, 0, 0), 2);
        reads(x, "map 0:\"a\" \"p\" \"o\" if null $1. map 0:\"b\" \"p\" \"o\" if $1 = 0. map 0:\"c\" \"p\" \"o\" if $1 < 9999."
                + "map 0:\"d\" \"p\" \"o\" if $1 > 0. map 0:\"e\" \"p\" \"o\" if null $0. map 0:\"f\" \"p\" \"o\" if $1 < 0.", 6);
        int[][] holds = {{1, 0, 0}, {0, 1, 0}, {0, 1, 0}, {0, 0, 1}, {0, 0, 1}, {0, 0, 0}};
        for (int mapping = 0; mapping < 6; mapping++) {
            for (int row = 0; row < 3; row++) {
                due("condition " + mapping + " for row " + row, x.which(mapping, row, 0) != NO ? 1 : 0, holds[mapping][row]);
            }
        }
    }

    private static void joinsByKeys() {
        sentence("With of s by a b it is that of each row of s that is there whose column b has the number that column a has here");
        MappingText x = with(2, 3);
        int[] keys = {0, 1, 9999};
        for (int i = 0; i < 3; i++) {
            due("row", x.row(0, 100 + i, keys[i], 0, 0), i);
            due("row", x.row(1, 7, keys[i], 50 + i, 0), 2 * i);
            due("row", x.row(1, keys[i], 8, 60 + i, 0), 2 * i + 1);
        }
        reads(x, "map 0:\"{0}\" \"p\" $2 of 1 by 1 1. map 0:\"{0}\" \"q\" $2 of 1 by 1 0. map 0:\"{0}\" \"r\" $2 of 1 by 0 2.", 3);
        due("by the columns 1 and 1, 1 and 0", all(x), "N:100,N:p,V:50,0 N:100,N:q,V:60,0 N:101,N:p,V:51,0 N:101,N:q,V:61,0 "
                + "N:102,N:p,V:52,0 N:102,N:q,V:62,0");
        due("one that is not there", x.change(1, 0, false), 1);
        due("is not joined", x.which(0, 0, 0), NO);
        due("one that comes", x.row(1, 7, 0, 50, 0), 6);
        due("is joined", x.which(0, 0, 6), 0);
        due("and as a second one", x.row(1, 7, 0, 49, 0), 7);
        due("with its own value", x.which(0, 0, 7), 0);
        due("beside the first", x.which(0, 0, 6), 1);
        due("a row whose key no row has", x.row(0, 103, 2, 0, 0), 3);
        due("joins none", x.which(0, 3, 0), NO);
    }

    private static void joinsOfNulls() {
        sentence("the number that column a has here: a NULL is none");
        MappingText x = with(1, 2);
        due("row", x.row(0, -1, 0, 0, 0), 0);
        due("row", x.row(0, 0, 0, 0, 0), 1);
        due("row", x.row(1, -1, 5, 0, 0), 0);
        due("row", x.row(1, 0, -1, 0, 0), 1);
        due("row", x.row(1, 0, 6, 0, 0), 2);
        reads(x, "map 0:\"s\" \"p\" $1 of 1 by 0 0.", 1);
        int[][] joined = {{NO, NO, NO}, {NO, NO, 0}};
        for (int row = 0; row < 2; row++) {
            for (int other = 0; other < 3; other++) {
                due("row " + row + " with " + other, x.which(0, row, other), joined[row][other]);
            }
        }
        due("triples", all(x), "N:s,N:p,V:6,0");
    }

    private static void nullsThatAreWanted() {
        sentence("Where a cell that is wanted is NULL nothing is given");
        String[] texts = {"map 0:_0 \"p\" \"o\".", "map 0:\"a{0}\" \"p\" \"o\".", "map 0:\"s\" \"{1}{0}\" \"o\".", "map 0:\"s\" \"p\" \"{0}b{1}\".",
            "map 0:\"s\" \"p\" _0.", "map 0:\"s\" \"p\" $0.", "map 0:\"s\" \"p\" $1 of 1 by 0 0."};
        for (String text : texts) {
            MappingText x = with(2, 2);
            due("row", x.row(0, -1, 4, 0, 0), 0);
            due("row", x.row(1, 0, 5, 0, 0), 0);
            due("row", x.row(1, -1, 5, 0, 0), 1);
            reads(x, text, 1);
            due("triples of NULL by " + text, x.triples(), 0);
            due("bads", x.bads(), 0);
            due("row", x.row(0, 0, 4, 0, 0), 1);
            due("triples of 0 by " + text, x.triples(), 1);
            // A NULL that is not wanted does not matter.
            due("row", x.row(1, 0, -1, 0, 0), 2);
            due("triples", x.triples(), 1);
        }
        gives("map 0:\"s\" \"p\" $3.", new int[][] {cells(-1, -1, -1, 0)}, "N:s,N:p,V:0,0");
        gives("map 0:\"s\" \"p\" \"o\".", new int[][] {cells(-1, -1, -1, -1)}, "N:s,N:p,N:o,0");
    }

    // Terms: the bad rows.

    private static void badByLength() {
        sentence("one of the templates gives no byte or more than 20");
        for (int name = 0; name < 3; name++) {
            for (int length = 0; length <= 30; length++) {
                String[] names = {"s", "p", "o"};
                names[name] = "a".repeat(length);
                badOrGiven(names, 7, length, name);
                names[name] = "\\{".repeat(length);
                badOrGiven(names, 7, length, name);
            }
            int[] cells = {0, 10, 100, 9999};
            for (int cell : cells) {
                for (int pieces = 1; pieces <= 30; pieces++) {
                    String[] names = {"s", "p", "o"};
                    names[name] = "{0}".repeat(pieces);
                    badOrGiven(names, cell, pieces * ("" + cell).length(), name);
                }
            }
        }
    }

    private static void badOrGiven(String[] names, int cell, int length, int name) {
        MappingText x = with(1);
        due("row", x.row(0, cell, 0, 0, 0), 0);
        reads(x, "map 0:\"" + names[0] + "\" \"" + names[1] + "\" \"" + names[2] + "\".", 1);
        boolean bad = length == 0 || length > 20;
        due("bads for a name of " + length, x.bads(), bad ? 1 : 0);
        due("triples for a name of " + length, x.triples(), bad ? 0 : 1);
        due("the name of " + length, x.bad(0, 2), bad ? name : NO);
        due("its length", x.triple(0, 3 + name), bad ? NO : length);
        due("its last byte", x.byteOf(0, name, length - 1) == BAD ? 1 : 0, bad ? 1 : 0);
        due("behind its last byte", x.byteOf(0, name, length), BAD);
    }

    private static void badOnlyWhen() {
        sentence("A row is BAD for a mapping, when it is there, the condition holds, no cell that the names want is NULL");
        MappingText x = with(2, 1);
        due("row", x.row(0, 5, -1, 0, 0), 0);
        reads(x, "map 0:\"\" \"p\" \"o\".", 1);
        due("bads", x.bads(), 1);
        due("it goes", x.change(0, 0, false), 0);
        due("bads", x.bads(), 0);
        due("bad", x.bad(0, 0), NO);
        due("it comes", x.change(0, 0, true), 0);
        due("bads", x.bads(), 1);
        String[] holds = {" if $0 = 5", " if $0 < 6", " if $0 > 4", " if null $1"};
        String[] fails = {" if $0 = 4", " if $0 < 5", " if $0 > 5", " if null $0", " if $1 < 9"};
        for (String condition : holds) {
            reads(x, "map 0:\"\" \"p\" \"o\"" + condition + ".", 1);
            due("bads with" + condition, x.bads(), 1);
        }
        for (String condition : fails) {
            reads(x, "map 0:\"\" \"p\" \"o\"" + condition + ".", 1);
            due("bads with" + condition, x.bads(), 0);
        }
        badWithNulls();
    }

    private static void badWithNulls() {
        // Column 1 is NULL: a name that wants it, before or behind the empty one, keeps the row from being bad.
        String[] kept = {"map 0:_1 \"\" \"o\".", "map 0:\"\" \"{1}\" \"o\".", "map 0:\"\" \"p\" \"{1}\".", "map 0:\"\" \"p\" _1.",
            "map 0:\"" + "a".repeat(21) + "{1}\" \"p\" \"o\"."};
        // What the names do not want does not: a value, a key, a row joined that there is not.
        String[] bads = {"map 0:\"\" \"p\" $1.", "map 0:\"\" \"p\" $0 of 1 by 1 0.", "map 0:\"\" \"p\" $0 of 1 by 0 0.", "map 0:_0 \"\" $1.",
            "map 0:\"{0}\" \"p\" \"\".", "map 0:\"s\" \"" + "a".repeat(21) + "\" _0."};
        for (String text : kept) {
            MappingText x = with(2, 1);
            due("row", x.row(0, 5, -1, 0, 0), 0);
            reads(x, text, 1);
            due("bads of " + text, x.bads(), 0);
            due("triples of " + text, x.triples(), 0);
            due("row", x.row(0, 5, 0, 0, 0), 1);
            due("bads of " + text, x.bads(), 1);
        }
        for (String text : bads) {
            MappingText x = with(2, 1);
            due("row", x.row(0, 5, -1, 0, 0), 0);
            reads(x, text, 1);
            due("bads of " + text, x.bads(), 1);
            due("triples of " + text, x.triples(), 0);
        }
    }

    private static void badGivesNothing() {
        sentence("then nothing is given for it");
        MappingText x = with(1, 1);
        due("row", x.row(0, 9, 0, 0, 0), 0);
        due("row", x.row(0, 10, 0, 0, 0), 1);
        due("row", x.row(1, 9, 0, 0, 0), 0);
        due("row", x.row(1, 10, 0, 0, 0), 1);
        String nineteen = "a".repeat(19);
        reads(x, "map 0:\"" + nineteen + "{0}\" \"p\" \"o\". map 0:\"s\" \"" + nineteen + "{0}\" $0 of 1 by 0 0. map 0:\"t\" \"p\" $0.", 3);
        due("the bad row gives by the other mapping alone", all(x), "N:" + nineteen + "9,N:p,N:o,0 N:s,N:" + nineteen
                + "9,V:9,0 N:t,N:p,V:10,0 N:t,N:p,V:9,0");
        due("bads", x.bads(), 2);
        due("which", x.which(0, 0, 0), 0);
        due("which of the bad row", x.which(0, 1, 0), NO);
        due("which of the bad row, joined", x.which(1, 1, 1), NO);
        due("the bad row goes", x.change(0, 1, false), 1);
    }

    // Terms and promise 7: the triples.

    private static void differentTriples() {
        sentence("THE TRIPLES are the different ones that are given");
        int[][] one = {cells(1, 1, 1, 1)};
        gives("map 0:\"s\" \"p\" \"o\".map 0:\"s\" \"p\" \"o\".", one, "N:s,N:p,N:o,0");
        gives("map 0:\"s\" \"p\" \"o\".map 0:\"t\" \"p\" \"o\".", one, "N:s,N:p,N:o,0 N:t,N:p,N:o,0");
        gives("map 0:\"s\" \"p\" \"o\".map 0:\"s\" \"q\" \"o\".", one, "N:s,N:p,N:o,0 N:s,N:q,N:o,0");
        gives("map 0:\"s\" \"p\" \"1\".map 0:\"s\" \"p\" $0.", one, "N:s,N:p,N:1,0 N:s,N:p,V:1,0");
        gives("map 0:\"s\" \"p\" \"o\".map 0:\"s\" \"p\" \"o\" in 1.", one, "N:s,N:p,N:o,0 N:s,N:p,N:o,1");
        gives("map 0:\"s{0}\" \"p\" \"o\".map 0:\"s1\" \"p\" \"o\".", one, "N:s1,N:p,N:o,0");
        gives("map 0:\"a{0}\" \"p\" \"o\".", new int[][] {cells(1, 1, 1, 1), cells(1, 2, 2, 2), cells(2, 1, 1, 1)},
                "N:a1,N:p,N:o,0 N:a2,N:p,N:o,0");
        // The bytes that are the same, cut at another place, are other terms.
        gives("map 0:\"ab\" \"c\" \"d\".map 0:\"a\" \"bc\" \"d\".map 0:\"a\" \"b\" \"cd\".", one, "N:a,N:b,N:cd,0 N:a,N:bc,N:d,0 N:ab,N:c,N:d,0");
        // A blank of another source, or a name with its bytes.
        MappingText x = with(1, 1);
        due("row", x.row(0, 1, 0, 0, 0), 0);
        due("row", x.row(1, 1, 0, 0, 0), 0);
        reads(x, "map 1:_0 \"p\" \"o\". map 0:_0 \"p\" \"o\". map 0:\"0.1\" \"p\" \"o\". map 1:\"0.{0}\" \"p\" \"o\".", 4);
        due("triples", firsts(x), "N:0.1 B:0.1 B:1.1");
    }

    private static void orderOfTerms() {
        sentence("in their order: by the first terms, then the second, the third, the graphs");
        int[][] one = {cells(1, 1, 1, 1)};
        gives("map 0:\"b\" \"a\" \"a\".map 0:\"a\" \"b\" \"b\" in 9.", one, "N:a,N:b,N:b,9 N:b,N:a,N:a,0");
        gives("map 0:\"a\" \"b\" \"a\".map 0:\"a\" \"a\" \"b\" in 9.", one, "N:a,N:a,N:b,9 N:a,N:b,N:a,0");
        gives("map 0:\"a\" \"a\" \"b\".map 0:\"a\" \"a\" \"a\" in 9.", one, "N:a,N:a,N:a,9 N:a,N:a,N:b,0");
        gives("map 0:\"a\" \"a\" \"a\" in 9.map 0:\"a\" \"a\" \"a\" in 8.map 0:\"a\" \"a\" \"a\".", one,
                "N:a,N:a,N:a,0 N:a,N:a,N:a,8 N:a,N:a,N:a,9");
        gives("map 0:\"a\" \"p\" $0.map 0:\"a\" \"p\" $1.", new int[][] {cells(3, 1, 0, 0), cells(4, 2, 0, 0)},
                "N:a,N:p,V:1,0 N:a,N:p,V:2,0 N:a,N:p,V:3,0 N:a,N:p,V:4,0");
    }

    private static void orderOfKinds() {
        sentence("terms by kinds (NAME 0, BLANK 1, VALUE 2)");
        int[][] one = {cells(0, 1, 1, 1)};
        gives("map 0:_0 \"p\" \"o\".map 0:\"~\" \"p\" \"o\".", one, "N:~,N:p,N:o,0 B:0.0,N:p,N:o,0");
        gives("map 0:\"s\" \"p\" $0.map 0:\"s\" \"p\" _1.map 0:\"s\" \"p\" \"~~~~\".", one, "N:s,N:p,N:~~~~,0 N:s,N:p,B:0.1,0 N:s,N:p,V:0,0");
        MappingText x = with(1, 1);
        due("row", x.row(0, 0, 0, 0, 0), 0);
        due("row", x.row(1, 0, 0, 0, 0), 0);
        // The blank's bytes are above the value's, and the joined value is a value as others are.
        reads(x, "map 1:\"s\" \"p\" $0 of 0 by 0 0. map 1:\"s\" \"p\" _0. map 1:\"s\" \"p\" \"1.0\".", 3);
        due("triples", all(x), "N:s,N:p,N:1.0,0 N:s,N:p,B:1.0,0 N:s,N:p,V:0,0");
    }

    private static void orderOfBytes() {
        sentence("then as rows of bytes (one that is the beginning of another one first)");
        for (int length = 1; length < 20; length++) {
            String name = "a".repeat(length);
            gives("map 0:\"" + name + " \" \"p\" \"o\".map 0:\"" + name + "\" \"p\" \"o\".map 0:\"" + name + "~\" \"p\" \"o\".",
                    new int[][] {cells(1, 1, 1, 1)}, "N:" + name + ",N:p,N:o,0 N:" + name + " ,N:p,N:o,0 N:" + name + "~,N:p,N:o,0");
            gives("map 0:\"s\" \"p\" \"" + name + "b\".map 0:\"s\" \"p\" \"" + name + "\".map 0:\"s\" \"p\" \"" + name + "B\".",
                    new int[][] {cells(1, 1, 1, 1)}, "N:s,N:p,N:" + name + ",0 N:s,N:p,N:" + name + "B,0 N:s,N:p,N:" + name + "b,0");
            // A byte before decides, however the bytes behind and the lengths are.
            gives("map 0:\"" + name + "b\" \"p\" \"o\".map 0:\"b\" \"p\" \"o\".map 0:\"" + "a".repeat(20) + "\" \"p\" \"o\".",
                    new int[][] {cells(1, 1, 1, 1)}, "N:" + "a".repeat(20) + ",N:p,N:o,0 N:" + name + "b,N:p,N:o,0 N:b,N:p,N:o,0");
        }
        gives("map 0:_0 \"p\" $0.", new int[][] {cells(2, 0, 0, 0), cells(10, 0, 0, 0), cells(1, 0, 0, 0), cells(100, 0, 0, 0), cells(9999, 0, 0, 0),
            cells(0, 0, 0, 0)}, "B:0.0,N:p,V:0,0 B:0.1,N:p,V:1,0 B:0.10,N:p,V:10,0 B:0.100,N:p,V:100,0 B:0.2,N:p,V:2,0 "
                + "B:0.9999,N:p,V:9999,0");
        gives("map 0:\"s\" \"p\" $0.", new int[][] {cells(20, 0, 0, 0), cells(3, 0, 0, 0), cells(200, 0, 0, 0), cells(2, 0, 0, 0)},
                "N:s,N:p,V:2,0 N:s,N:p,V:20,0 N:s,N:p,V:200,0 N:s,N:p,V:3,0");
    }

    private static MappingText twoSmallSources() {
        MappingText x = with(2, 2);
        due("row", x.row(0, 1, 9999, 0, 0), 0);
        due("row", x.row(0, 2, -1, 0, 0), 1);
        due("row", x.row(1, 1, 30, 0, 0), 0);
        due("row", x.row(1, 1, 4, 0, 0), 1);
        return x;
    }

    private static void triplesAfterOtherReads() {
        sentence("THE TRIPLES are the different ones that are given: by the mappings that there are now");
        String[] texts = {"map 0:\"" + "z".repeat(20) + "\" \"" + "{0}".repeat(20) + "\" \"" + "y".repeat(20) + "\" in 9.", "map 0:_0 \"p\" $1.",
            "map 0:\"s\" \"p\" $1 of 1 by 0 0.", "map 1:_1 \"pppppppp\" _0 if $1 < 30.", "map 0:\"a\" \"b{1}\" \"\".", "map 0:\"a\" \"b\" \"c\" if null $1.",
            "map 0:\"s\" \"p\" \"o\".", "map 0:\"sevensevenseve\" \"sevense\" \"sevensevenseve\"."};
        String[] want = {"N:zzzzzzzzzzzzzzzzzzzz,N:11111111111111111111,N:yyyyyyyyyyyyyyyyyyyy,9 "
                + "N:zzzzzzzzzzzzzzzzzzzz,N:22222222222222222222,N:yyyyyyyyyyyyyyyyyyyy,9", "B:0.1,N:p,V:9999,0",
            "N:s,N:p,V:30,0 N:s,N:p,V:4,0", "B:1.4,N:pppppppp,B:1.1,0", "", "N:a,N:b,N:c,0",
            "N:s,N:p,N:o,0", "N:sevensevenseve,N:sevense,N:sevensevenseve,0"};
        int[] bads = {0, 0, 0, 0, 1, 0, 0, 0};
        for (int before = 0; before < texts.length; before++) {
            for (int now = 0; now < texts.length; now++) {
                MappingText x = twoSmallSources();
                reads(x, texts[before], 1);
                due("triples before", all(x), want[before]);
                reads(x, texts[before], 1);
                reads(x, texts[now], 1);
                due("triples now", all(x), want[now]);
                due("bads now", x.bads(), bads[now]);
                reads(x, texts[now], 1);
                due("triples still", all(x), want[now]);
            }
        }
    }

    private static void triplesFromNoneToTheMost() {
        sentence("How many triples there are");
        MappingText x = with(2, 2);
        due("triples without rows and mappings", x.triples(), 0);
        for (int i = 0; i < 16; i++) {
            due("row", x.row(0, 15 - i, 1, 0, 0), i);
            due("row", x.row(1, i, 1, 0, 0), i);
        }
        due("triples without mappings", x.triples(), 0);
        reads(x, "map 0:_0 \"p\" \"o\" if $1 = 2.", 1);
        due("triples of no row", x.triples(), 0);
        StringBuilder text = new StringBuilder();
        for (int graph = 9; graph > 3; graph--) {
            text.append("map 0:_0 \"p\" $0 of 1 by 1 1 in ").append(graph).append('.');
        }
        reads(x, text.toString(), 6);
        due("the most triples", x.triples(), 1536);
        due("the last one's graph", x.triple(1535, 6), 9);
        due("the last one's row", x.triple(1535, 9), 6);
        due("the last one's first term", term(x, 1535, 0), "B:0.9");
        due("the last one's third term", term(x, 1535, 2), "V:9");
        due("the first one's graph", x.triple(0, 6), 4);
        due("the first one's row", x.triple(0, 9), 15);
        due("one behind", x.triple(1536, 0), NO);
        due("its byte", x.byteOf(1536, 0, 0), BAD);
        due("which", x.which(0, 15, 0), 5);
        due("which", x.which(0, 6, 9), 1535);
        due("which", x.which(5, 6, 9), 1530);
    }

    // Promise 8.

    private static void tripleBeyondTheEnds() {
        sentence("NO: there is no triple i (also below 0)");
        for (int triples = 0; triples <= 3; triples++) {
            MappingText x = with(1);
            for (int i = 0; i < triples; i++) {
                due("row", x.row(0, i, 0, 0, 0), i);
            }
            reads(x, "map 0:_0 \"p\" \"o\".", 1);
            for (int what = 0; what < 10; what++) {
                for (int i = -2; i < triples + 2; i++) {
                    due("triple(" + i + ", " + what + ")", x.triple(i, what) == NO ? 1 : 0, i < 0 || i >= triples ? 1 : 0);
                }
                for (int i : FAR) {
                    due("triple(" + i + ", " + what + ")", x.triple(i, what), NO);
                }
            }
        }
    }

    private static void tripleWhats() {
        sentence("the kind of its term 0, 1, 2 (what = 0, 1, 2), how many bytes that has (3, 4, 5), its graph (6) .. BAD: another what");
        MappingText x = with(4);
        due("row", x.row(0, 1, 22, 333, 4444), 0);
        reads(x, "map 0:_3 \"a\" $2 in 8.", 1);
        int[] want = {1, 0, 2, 6, 1, 3, 8, 1, 0, 0};
        for (int what = 0; what < 10; what++) {
            due("triple(0, " + what + ")", x.triple(0, what), want[what]);
        }
        int[] others = {-1, -2, 10, 11, Integer.MIN_VALUE, Integer.MAX_VALUE};
        for (int what : others) {
            due("triple(0, " + what + ")", x.triple(0, what), BAD);
            due("triple(1, " + what + ")", x.triple(1, what), BAD);
            due("triple(-1, " + what + ")", x.triple(-1, what), BAD);
        }
        reads(x, "map 0:\"" + "a".repeat(20) + "\" \"" + "b".repeat(19) + "\" \"c\".", 1);
        int[] names = {0, 0, 0, 20, 19, 1, 0, 1, 0, 0};
        for (int what = 0; what < 10; what++) {
            due("triple(0, " + what + ")", x.triple(0, what), names[what]);
        }
    }

    private static void tripleWays() {
        sentence("in how many ways it is given (7: by mappings, rows, rows joined)");
        MappingText x = with(1, 1);
        for (int i = 0; i < 16; i++) {
            due("row", x.row(0, 1, 0, 0, 0), i);
            due("row", x.row(1, 1, 0, 0, 0), i);
        }
        reads(x, "map 0:\"s\" \"p\" $0.", 1);
        due("by 16 rows", x.triple(0, 7), 16);
        reads(x, "map 0:\"s\" \"p\" $0. map 0:\"s\" \"p\" $0.", 2);
        due("by 2 mappings and 16 rows", x.triple(0, 7), 32);
        reads(x, "map 0:\"s\" \"p\" $0 of 1 by 0 0.", 1);
        due("by 16 rows joined with 16", x.triple(0, 7), 256);
        // Of several triples each has its own ways.
        reads(x, "map 0:\"a\" \"p\" $0. map 0:\"b\" \"p\" $0. map 0:\"b\" \"p\" $0. map 0:\"c\" \"p\" $0 of 1 by 0 0. map 0:\"d\" \"p\" $0.", 5);
        int[] ways = {16, 32, 256, 16};
        for (int i = 0; i < ways.length; i++) {
            due("ways of triple " + i, x.triple(i, 7), ways[i]);
        }
        reads(x, "map 0:\"s\" \"p\" $0 of 1 by 0 0.".repeat(6), 6);
        due("the most ways", x.triple(0, 7), 1536);
        due("triples", x.triples(), 1);
        due("which", x.which(5, 15, 15), 0);
        due("a row goes", x.change(0, 3, false), 0);
        due("ways", x.triple(0, 7), 1440);
        due("a row joined goes", x.change(1, 3, false), 0);
        due("ways", x.triple(0, 7), 1350);
        for (int i = 1; i < 16; i++) {
            due("a row goes", x.change(0, i, false), 0);
            due("a row joined goes", x.change(1, i, false), 0);
        }
        due("one way by each mapping", x.triple(0, 7), 6);
        due("the last row goes", x.change(0, 0, false), 1);
        due("ways of none", x.triple(0, 7), NO);
    }

    private static void tripleLeast() {
        sentence("the least mapping that gives it (8), the least row by which that does (9)");
        MappingText x = with(1);
        for (int i = 0; i < 16; i++) {
            due("row", x.row(0, i / 2, 0, 0, 0), i);
        }
        // Each mapping gives the same for fewer rows than the one behind it.
        reads(x, "map 0:\"s\" \"p\" \"o\" if $0 > 6. map 0:\"s\" \"p\" \"o\" if $0 > 4. map 0:\"s\" \"p\" \"o\" if $0 > 2."
                + "map 0:\"s\" \"p\" \"o\" if $0 > 1. map 0:\"s\" \"p\" \"o\" if $0 > 0. map 0:\"s\" \"p\" \"o\".", 6);
        int[] mappings = {0, 0, 1, 1, 1, 1, 2, 2, 2, 2, 3, 3, 4, 4, 5, 5};
        int[] rows = {14, 14, 10, 10, 10, 10, 6, 6, 6, 6, 4, 4, 2, 2, 0, 0};
        for (int row = 15; row >= 0; row--) {
            due("the least mapping up to row " + row, x.triple(0, 8), mappings[15 - row]);
            due("the least row up to row " + row, x.triple(0, 9), rows[15 - row]);
            due("row " + row + " goes", x.change(0, row, false), row == 0 ? 1 : 0);
        }
        due("the last row comes", x.change(0, 15, true), 1);
        due("the least mapping", x.triple(0, 8), 0);
        due("the least row", x.triple(0, 9), 15);
        due("a row before it comes", x.change(0, 0, true), 0);
        due("the least mapping", x.triple(0, 8), 0);
        due("the least row of that mapping, not of all", x.triple(0, 9), 15);
    }

    // Promise 9.

    private static void byteOfBeyondTheEnds() {
        sentence("Byte k of a term (0, 1, 2) of triple i. BAD when there is none such");
        MappingText x = with(2);
        due("row", x.row(0, 7, 9999, 0, 0), 0);
        due("row", x.row(0, 8, 9999, 0, 0), 1);
        String twenty = "abcdefghijklmnopqrst";
        reads(x, "map 0:_0 \"" + twenty + "\" $1.", 1);
        String[] terms = {"0.7", twenty, "9999"};
        for (int term = 0; term < 3; term++) {
            for (int k = -2; k < 24; k++) {
                int want = k >= 0 && k < terms[term].length() ? terms[term].charAt(k) : BAD;
                due("byteOf(0, " + term + ", " + k + ")", x.byteOf(0, term, k), want);
            }
            due("byteOf(1, ..)", x.byteOf(1, term, 0), terms[term].charAt(0));
            due("byteOf(2, ..)", x.byteOf(2, term, 0), BAD);
            due("byteOf(-1, ..)", x.byteOf(-1, term, 0), BAD);
            for (int far : FAR) {
                due("byteOf(.., .., " + far + ")", x.byteOf(0, term, far), BAD);
                due("byteOf(" + far + ", ..)", x.byteOf(far, term, 0), BAD);
            }
        }
        int[] others = {-1, -2, 3, 4, Integer.MIN_VALUE, Integer.MAX_VALUE};
        for (int term : others) {
            due("byteOf(0, " + term + ", 0)", x.byteOf(0, term, 0), BAD);
            due("byteOf(0, " + term + ", 1)", x.byteOf(0, term, 1), BAD);
        }
        due("change", x.change(0, 1, false), 1);
        due("byteOf a triple that went", x.byteOf(1, 0, 0), BAD);
    }

    // Promise 10.

    private static void whichBeyondTheEnds() {
        sentence("BAD: no such mapping, row, or row joined");
        MappingText x = with(1, 1, 1);
        for (int i = 0; i < 16; i++) {
            due("row", x.row(1, i, 0, 0, 0), i);
        }
        due("row", x.row(0, 3, 0, 0, 0), 0);
        due("row", x.row(0, 4, 0, 0, 0), 1);
        due("no mapping", x.which(0, 0, 0), BAD);
        reads(x, "map 0:_0 \"p\" \"o\". map 1:_0 \"p\" \"o\". map 0:_0 \"q\" $0 of 1 by 0 0. map 2:_0 \"p\" \"o\".", 4);
        due("the last mapping, of a source without rows", x.which(3, 0, 0), BAD);
        due("no such mapping", x.which(4, 0, 0), BAD);
        due("no such mapping", x.which(5, 0, 0), BAD);
        due("no such mapping", x.which(6, 0, 0), BAD);
        due("no such mapping", x.which(-1, 0, 0), BAD);
        due("the last row", x.which(0, 1, 0) >= 0 ? 1 : 0, 1);
        due("no such row", x.which(0, 2, 0), BAD);
        due("no such row", x.which(0, -1, 0), BAD);
        due("the last row", x.which(1, 15, 0) >= 0 ? 1 : 0, 1);
        due("no such row", x.which(1, 16, 0), BAD);
        due("the row joined", x.which(2, 0, 3) >= 0 ? 1 : 0, 1);
        due("the last row joined", x.which(2, 0, 15), NO);
        due("no such row joined", x.which(2, 0, 16), BAD);
        due("no such row joined", x.which(2, 0, -1), BAD);
        due("no such row, though a row joined", x.which(2, 2, 3), BAD);
        for (int far : FAR) {
            due("which(" + far + ", ..)", x.which(far, 0, 0), BAD);
            due("which(.., " + far + ", ..)", x.which(0, far, 0), BAD);
            due("which(.., " + far + ")", x.which(2, 0, far), BAD);
        }
        reads(x, "map 0:_0 \"p\" \"o\".", 1);
        due("a mapping that is not any more", x.which(1, 0, 0), BAD);
        reads(x, "map 0:_0 \"p\" \"o\".".repeat(6), 6);
        due("the sixth mapping", x.which(5, 0, 0), 0);
        due("the seventh mapping", x.which(6, 0, 0), BAD);
    }

    private static void whichOther() {
        sentence("(with other: for that row joined; not looked at without a join)");
        MappingText x = with(1, 2);
        due("row", x.row(0, 1, 0, 0, 0), 0);
        due("row", x.row(1, 1, 9, 0, 0), 0);
        due("row", x.row(1, 2, 8, 0, 0), 1);
        due("row", x.row(1, 1, 7, 0, 0), 2);
        reads(x, "map 0:_0 \"p\" \"o\". map 0:_0 \"p\" $0. map 0:_0 \"p\" $1 of 1 by 0 0.", 3);
        int[] others = {-2, -1, 0, 1, 2, 3, 15, 16, 17, Integer.MIN_VALUE, Integer.MAX_VALUE};
        for (int other : others) {
            due("which(0, 0, " + other + ")", x.which(0, 0, other), 0);
            due("which(1, 0, " + other + ")", x.which(1, 0, other), 1);
        }
        due("which(2, 0, 0)", x.which(2, 0, 0), 3);
        due("which(2, 0, 1)", x.which(2, 0, 1), NO);
        due("which(2, 0, 2)", x.which(2, 0, 2), 2);
    }

    private static void whichNone() {
        sentence("NO: none.");
        MappingText x = with(2, 1);
        due("row", x.row(0, 1, 5, 0, 0), 0);
        due("row", x.row(0, 2, -1, 0, 0), 1);
        due("row", x.row(0, 3, 9999, 0, 0), 2);
        due("row", x.row(1, 1, 0, 0, 0), 0);
        reads(x, "map 0:\"" + "a".repeat(17) + "{1}\" \"p\" \"o\" if $0 > 1. map 0:_0 \"p\" \"o\". map 0:_0 \"p\" $0 of 1 by 0 0.", 3);
        due("the condition does not hold", x.which(0, 0, 0), NO);
        due("a cell is NULL", x.which(0, 1, 0), NO);
        due("the row is bad", x.which(0, 2, 0), NO);
        due("it is given", x.which(1, 0, 0), 0);
        due("it is joined", x.which(2, 0, 0), 1);
        due("it is not joined", x.which(2, 1, 0), NO);
        due("the row joined goes", x.change(1, 0, false), 1);
        due("the row joined is not there", x.which(2, 0, 0), NO);
        due("the row goes", x.change(0, 0, false), 1);
        due("the row is not there", x.which(1, 0, 0), NO);
        due("the row behind it", x.which(1, 1, 0), 0);
    }

    // Promises 11 and 12.

    private static void badsFromNoneToTheMost() {
        sentence("How many pairs of a mapping and a row that is BAD for it there are");
        MappingText x = with(1);
        due("bads", x.bads(), 0);
        reads(x, "map 0:\"\" \"p\" \"o\".".repeat(6), 6);
        due("bads without rows", x.bads(), 0);
        for (int i = 0; i < 16; i++) {
            due("row", x.row(0, i, 0, 0, 0), i);
            due("bads of " + (i + 1) + " rows", x.bads(), 6 * (i + 1));
        }
        for (int mapping = 0; mapping < 6; mapping++) {
            for (int row = 0; row < 16; row++) {
                due("its mapping", x.bad(16 * mapping + row, 0), mapping);
                due("its row", x.bad(16 * mapping + row, 1), row);
            }
        }
        due("the last one's name", x.bad(95, 2), 0);
        due("one behind", x.bad(96, 0), NO);
        due("a row goes", x.change(0, 15, false), 0);
        due("bads", x.bads(), 90);
        due("the last one's row", x.bad(89, 1), 14);
        due("one behind", x.bad(90, 1), NO);
        due("triples", x.triples(), 0);
    }

    private static void badBeyondTheEnds() {
        sentence("BAD: another what; NO: there is no such pair (also below 0)");
        for (int rows = 0; rows <= 2; rows++) {
            MappingText x = with(1);
            for (int i = 0; i < rows; i++) {
                due("row", x.row(0, i, 0, 0, 0), i);
            }
            reads(x, "map 0:\"s\" \"p\" \"\".", 1);
            for (int what = 0; what < 3; what++) {
                for (int i = -2; i < rows + 3; i++) {
                    int want = i < 0 || i >= rows ? NO : what == 0 ? 0 : what == 1 ? i : 2;
                    due("bad(" + i + ", " + what + ")", x.bad(i, what), want);
                }
                for (int i : FAR) {
                    due("bad(" + i + ", " + what + ")", x.bad(i, what), NO);
                }
            }
            int[] others = {-2, -1, 3, 4, Integer.MIN_VALUE, Integer.MAX_VALUE};
            for (int what : others) {
                for (int i = -1; i < rows + 1; i++) {
                    due("bad(" + i + ", " + what + ")", x.bad(i, what), BAD);
                }
            }
        }
    }

    private static void badNames() {
        sentence("Of the i-th such pair, by mappings, then rows: .. the first of its names that is too long or empty (2: 0, 1, 2)");
        String long21 = "a".repeat(21);
        String[] good = {"s", "p", "o"};
        String[] kinds = {"", long21};
        for (String one : kinds) {
            for (String other : kinds) {
                for (int mask = 1; mask < 8; mask++) {
                    MappingText x = with(1);
                    due("row", x.row(0, 1, 0, 0, 0), 0);
                    StringBuilder text = new StringBuilder("map 0:");
                    for (int name = 0; name < 3; name++) {
                        text.append('"').append((mask >> name & 1) == 0 ? good[name] : name == 1 ? other : one).append("\" ");
                    }
                    reads(x, text.append('.').toString(), 1);
                    due("the first bad name of " + text, x.bad(0, 2), Integer.numberOfTrailingZeros(mask));
                    due("bads", x.bads(), 1);
                }
            }
        }
        // By mappings, then rows; blanks and values are never too long.
        MappingText x = with(1);
        due("row", x.row(0, 9999, 0, 0, 0), 0);
        due("row", x.row(0, 0, 0, 0, 0), 1);
        reads(x, "map 0:_0 \"p\" _0. map 0:_0 \"{0}{0}{0}{0}{0}{0}\" $0. map 0:_0 \"p\" \"\". map 0:\"s\" \"p\" $0.", 4);
        int[][] pairs = {{1, 0, 1}, {2, 0, 2}, {2, 1, 2}};
        due("bads", x.bads(), 3);
        for (int i = 0; i < 3; i++) {
            for (int what = 0; what < 3; what++) {
                due("bad(" + i + ", " + what + ")", x.bad(i, what), pairs[i][what]);
            }
        }
    }
}
