/** The document's promises, one method each: ordinary inputs, the edges that it names, and wrong inputs. */
public final class PromisesTest {
    private static final int BAD = -1;
    private static final int FULL = -2;
    private static final int NO = -3;

    private static int wrong = 0;
    private static String promise = "";

    public static void main(String[] args) {
        newObject();
        source();
        row();
        change();
        type();
        readGrammar();
        readPlacesThatAreWrong();
        readPlacesThatMayNotBe();
        readLimits();
        readKeepsAndReplaces();
        triplesAreDifferentAndOrdered();
        triple();
        conditionsAndNulls();
        joins();
        byteOf();
        which();
        badRows();
        print();
        at();
        System.out.println(wrong == 0 ? "all promises are kept" : wrong + " answers are not as due");
        if (wrong != 0) {
            System.exit(1);
        }
    }

    private static void due(String call, int got, int want) {
        if (got != want) {
            wrong++;
            System.out.println(promise + ": " + call + " answered " + got + ", due is " + want);
        }
    }

    private static void due(String what, String got, String want) {
        if (!got.equals(want)) {
            wrong++;
            System.out.println(promise + ": " + what + " is <" + got + ">, due is <" + want + ">");
        }
    }

    // Helpers: all that they tell comes from the face.

    private static void typeText(MappingText x, String text) {
        for (int from = 0; from < text.length(); from += 8) {
            int n = Math.min(8, text.length() - from);
            long bytes = 0;
            for (int i = 0; i < n; i++) {
                bytes = bytes << 8 | text.charAt(from + i);
            }
            due("type of part of <" + text + ">", x.type(bytes, n), from + n);
        }
    }

    private static int readText(MappingText x, String text) {
        typeText(x, text);
        return x.read();
    }

    private static void dueRead(MappingText x, String text, int want) {
        due("read of <" + text + ">", readText(x, text), want);
    }

    private static String term(MappingText x, int i, int term) {
        StringBuilder told = new StringBuilder("NBV".substring(x.triple(i, term), x.triple(i, term) + 1)).append(':');
        for (int k = 0; k < x.triple(i, 3 + term); k++) {
            told.append((char) x.byteOf(i, term, k));
        }
        return told.toString();
    }

    private static String allTriples(MappingText x) {
        StringBuilder told = new StringBuilder();
        for (int i = 0; i < x.triples(); i++) {
            told.append(i == 0 ? "" : " ").append(term(x, i, 0)).append(',').append(term(x, i, 1)).append(',')
                    .append(term(x, i, 2)).append(',').append(x.triple(i, 6));
        }
        return told.toString();
    }

    private static String printed(MappingText x) {
        int n = x.print();
        StringBuilder told = new StringBuilder();
        for (int i = 0; i < n; i++) {
            told.append((char) x.at(i));
        }
        return told.toString();
    }

    /** Sources 0 with two columns and 1 with four, as in most of the tests here. */
    private static MappingText twoSources() {
        MappingText x = new MappingText();
        due("source(2)", x.source(2), 0);
        due("source(4)", x.source(4), 1);
        return x;
    }

    // The promises.

    private static void newObject() {
        promise = "1 a new object";
        MappingText x = new MappingText();
        due("triples()", x.triples(), 0);
        due("bads()", x.bads(), 0);
        due("print()", x.print(), 0);
        due("at(0)", x.at(0), BAD);
        due("read()", x.read(), 0);
        due("row(0, ..)", x.row(0, 1, 1, 1, 1), BAD);
        due("which(0, 0, 0)", x.which(0, 0, 0), BAD);
        due("type(1 byte)", x.type('m', 1), 1);
        due("source(1)", new MappingText().source(1), 0);
        due("BAD", MappingText.BAD, BAD);
        due("FULL", MappingText.FULL, FULL);
        due("NO", MappingText.NO, NO);
    }

    private static void source() {
        promise = "2 source";
        MappingText x = new MappingText();
        int[] none = {0, -1, 5, Integer.MAX_VALUE, Integer.MIN_VALUE};
        for (int columns : none) {
            due("source(" + columns + ")", x.source(columns), BAD);
        }
        for (int i = 0; i < 4; i++) {
            due("source(" + (i + 1) + ")", x.source(i + 1), i);
        }
        due("a source too many", x.source(1), FULL);
        due("a source too many with too many columns", x.source(5), BAD);
        due("a source too many again", x.source(4), FULL);
        // The columns of each are as told.
        for (int i = 0; i < 4; i++) {
            dueRead(x, "map " + i + ":_" + i + " \"p\" \"o\".", 1);
            dueRead(x, "map " + i + ":_" + (i + 1) + " \"p\" \"o\".", -1007);
        }
    }

    private static void row() {
        promise = "3 row";
        MappingText x = twoSources();
        due("row of no source", x.row(2, 1, 1, 1, 1), BAD);
        due("row of source -1", x.row(-1, 1, 1, 1, 1), BAD);
        due("row of a far source", x.row(Integer.MAX_VALUE, 1, 1, 1, 1), BAD);
        due("a above", x.row(0, 10000, 1, 1, 1), BAD);
        due("b above", x.row(0, 1, 10000, 1, 1), BAD);
        due("c above, not looked at", x.row(0, 9999, 0, 10000, Integer.MAX_VALUE), 0);
        due("c above", x.row(1, 1, 1, 10000, 1), BAD);
        due("d above", x.row(1, 1, 1, 1, 10000), BAD);
        due("cells below 0", x.row(1, -1, Integer.MIN_VALUE, 0, 7), 0);
        for (int i = 1; i < 16; i++) {
            due("row " + i, x.row(0, i, 0, 0, 0), i);
        }
        due("a row too many", x.row(0, 1, 1, 1, 1), FULL);
        due("a row too many with a cell above", x.row(0, 10000, 1, 1, 1), BAD);
        due("a row of the other source", x.row(1, 5, 5, 5, 5), 1);
        dueRead(x, "map 0:\"{0}\" \"{1}\" \"o\" if $0 > 14. map 1:\"a{2}\" \"p\" $3 if null $1."
                + "map 1:\"b\" \"p\" \"o\" if null $0.", 3);
        due("the rows' triples", allTriples(x),
                "N:15,N:0,N:o,0 N:9999,N:0,N:o,0 N:a0,N:p,V:7,0 N:b,N:p,N:o,0");
        due("one more row", x.row(1, -9, 1, 1, 1), 2);
        due("its triple was given already", x.triple(3, 7), 2);
        // The highest cell in every column, and none looked at behind the last one, for each width.
        for (int width = 1; width <= 4; width++) {
            MappingText y = new MappingText();
            y.source(width);
            int far = Integer.MAX_VALUE;
            due("the highest cells", y.row(0, 9999, width > 1 ? 9999 : far, width > 2 ? 9999 : far, width > 3 ? 9999 : far), 0);
            due("the last cell above", y.row(0, width == 1 ? 10000 : 0, width == 2 ? 10000 : 0, width == 3 ? 10000 : 0,
                    width == 4 ? 10000 : 0), BAD);
            dueRead(y, "map 0:\"s\" \"p\" $" + (width - 1) + ".", 1);
            due("its last cell", allTriples(y), "N:s,N:p,V:9999,0");
        }
    }

    private static void change() {
        promise = "4 change";
        MappingText x = twoSources();
        due("change of no row", x.change(0, 0, true), BAD);
        x.row(0, 1, 2, 0, 0);
        x.row(0, 1, 3, 0, 0);
        x.row(1, 1, 8, 0, 0);
        x.row(1, 1, 9, 0, 0);
        due("change of row 2", x.change(0, 2, false), BAD);
        due("change of row -1", x.change(0, -1, false), BAD);
        due("change in source 2", x.change(2, 0, false), BAD);
        due("change in source -1", x.change(-1, 0, false), BAD);
        due("change without a mapping", x.change(0, 0, false), 0);
        due("and back", x.change(0, 0, true), 0);
        dueRead(x, "map 0:\"s{0}\" \"p\" $1. map 0:\"s\" \"same\" \"o\". map 0:_1 \"j\" $1 of 1 by 0 0.", 3);
        due("triples", x.triples(), 7);
        due("it is so", x.change(0, 0, true), 0);
        due("row 0 goes", x.change(0, 0, false), 3);
        due("triples", x.triples(), 4);
        due("row 0 went", x.change(0, 0, false), 0);
        due("row 1 goes too", x.change(0, 1, false), 4);
        due("triples", x.triples(), 0);
        due("row 1 comes", x.change(0, 1, true), 4);
        due("row 0 comes", x.change(0, 0, true), 3);
        due("a joined row goes", x.change(1, 1, false), 2);
        due("a joined row comes", x.change(1, 1, true), 2);
        due("triples", x.triples(), 7);
    }

    private static void type() {
        promise = "5 type";
        MappingText x = twoSources();
        due("type of 0", x.type(1, 0), BAD);
        due("type of 9", x.type(1, 9), BAD);
        due("type of -1", x.type(1, -1), BAD);
        due("type of the least int", x.type(1, Integer.MIN_VALUE), BAD);
        // The highest of the lowest n bytes first; those above are not looked at.
        due("type of ':' below others", x.type(0x7171717171713AL, 1), 1);
        due("read", x.read(), -10);
        due("type of map", x.type(0xFFFFFFFFFF6D6170L, 3), 3);
        due("type of blank and 7", x.type(0x6D2037, 2), 5);
        due("read", x.read(), -1004);
        due("type of eight bytes", x.type(0x6D6170206D617020L, 8), 8);
        due("read", x.read(), -14);
        due("type of a byte 255", x.type(-1, 1), 1);
        due("read", x.read(), -10);
        for (int i = 1; i <= 62; i++) {
            due("type " + i, x.type(0x2020202020202020L, 8), 8 * i);
        }
        due("type beyond 500", x.type(0x2020202020L, 5), FULL);
        due("type of 0 to a full text", x.type(0x20, 0), BAD);
        due("type up to 500", x.type(0x20202020, 4), 500);
        due("type beyond 500", x.type(0x20, 1), FULL);
        due("read of 500 blanks", x.read(), 0);
        due("type to the text that is empty then", x.type(0x20, 1), 1);
    }

    private static void readGrammar() {
        promise = "6 read, the grammar";
        MappingText x = twoSources();
        dueRead(x, "", 0);
        dueRead(x, " \n \n", 0);
        dueRead(x, "map0:_0\"p\"$0.", 1);
        dueRead(x, "\n map \n 0 : _ 0 \"p\" $ \n 0 . \n", 1);
        dueRead(x, "map 0:_0 \"p\" _1.map 1:\"\" \"\" \"\" in 9.", 2);
        dueRead(x, "map 0:_0 \"p\" $3 of 1 by 1 3 if $1 < 9999 in 0.", 1);
        dueRead(x, "map 0:_0 \"p\" $0 of 1 by 00003.", 1);
        dueRead(x, "map 0:_0 \"p\" $0 of 1 by 000003.", 1);
        dueRead(x, "map 0000:_0001 \"p{0001}\" $0001 if $0001=0000 in 0009.", 1);
        dueRead(x, "map 0:_0 \"p\" $0 if null $1 in 1.map 0:_0 \"p\" $0 if $1>5.", 2);
        dueRead(x, "map 0:\"\\\"\\\\\\{\\} ~\" \"p\" $0.", 1);
        due("printed", printed(x), "map 0 : \"\\\"\\\\\\{\\} ~\" \"p\" $0 .\n");
    }

    private static void readPlacesThatAreWrong() {
        promise = "6 read, WRONG";
        String good = "map 0:_0 \"p\" $0";
        String[] texts = {"zoo", "a", "map", "map ", "map\n\n", "mapp 0:", "ma 0:", "map x", "map :", "map 0 0", "map 0", "map 0 map 0", "map 0:",
            "map 0:$0", "map 0:0", "map 0:_", "map 0:_x", "map 0:_0 _0", "map 0:_0 $0", "map 0:_0", "map 0:_0 \"p\"",
            "map 0:_0 \"p\" 0", "map 0:_0 \"p\" .", "map 0:_0 \"p\" $", "map 0:_0 \"p\" $.", good, good + "00001.",
            good + " of", good + " of .", good + " of x", good + " of 1", good + " of 1.", good + " of 1 by",
            good + " of 1 by 0", good + " of 1 by 0.", good + " of 1 by 0 0", good + " of 1 by 0 0 0.",
            good + " of 1 by 000000030.", good + " if", good + " if.", good + " if 0", good + " if $", good + " if $x",
            good + " if $0", good + " if $0.", good + " if $0 : 1.", good + " if $0=", good + " if $0=.", good + " if $0=map", good + " if $0=x.",
            good + " if $0==1.", good + " if $0=12345.", good + " if null", good + " if null 0.",
            good + " if null null $0.", good + " if null $", good + " if null $0=1.", good + " if null $0 if null $0.",
            good + " in", good + " in.", good + " in 1", good + " in 1 in 1.", good + " in 1 if null $0.",
            good + ";", good + "\t.", good + ". .", good + ".x", good + ".map", good + " by 0 0.",
            "map 0:_0 \"p\" \"o\" of 1 by 0 0.", "map 0:_0 \"p\" _0 of 1 by 0 0.", good + " \"a\".", "\"", "MAP 0:",
            "map 0:\"", "map 0:\"a", "map 0:\"a\n\"", "map 0:\"}\"", "map 0:\"\\", "map 0:\"\\n\"", "map 0:\"{\"",
            "map 0:\"{", "map 0:\"{}\"", "map 0:\"{x}\"", "map 0:\"{ 0}\"", "map 0:\"{0 }\"", "map 0:\"{0",
            "map 0:\"{0{0}\"", "map 0:\"{00000}\"", "map 0:\"{0000}\\\\\\a\"", "map 0:_0 \"\u007f\"", "map 0:\"\u00e9",
            "map 0:\"a\"\"b\"\"c\"\"d\".", "if", "in", "of", "by", "null", "nullnull", "1", "_"};
        int[] places = {0, 0, 3, 4, 5, 0, 0, 4, 4, 6, 5, 6, 6,
            6, 6, 7, 7, 9, 9, 8, 12,
            13, 13, 14, 14, 15, 18,
            18, 19, 19, 20, 20, 23,
            25, 25, 27, 28,
            32, 18, 18, 19, 20, 20,
            21, 21, 22, 22, 22, 22, 22,
            22, 26, 23, 24,
            24, 25, 26, 27,
            18, 18, 20, 21, 21,
            15, 15, 17, 16, 19, 16,
            17, 16, 16, 0, 0,
            7, 8, 8, 7, 8, 8, 8,
            8, 8, 8, 8, 9, 9,
            9, 12, 16, 10, 7,
            15, 0, 0, 0, 0, 0, 0, 0, 0};
        due("places told", places.length, texts.length);
        for (int i = 0; i < texts.length && i < places.length; i++) {
            dueRead(twoSources(), texts[i], -10 - places[i]);
        }
    }

    private static void readPlacesThatMayNotBe() {
        promise = "6 read, MAY NOT be";
        MappingText x = twoSources();
        due("source(3)", x.source(3), 2);
        String good = "map 0:_0 \"p\" $0";
        String[] texts = {"map 3", "map 9999:", "map 99991", "map 0:_2 _", "map 0:_1 \"{2}\"", "map 0:_1 \"{2x",
            "map 0:\"{1234", "map 1:\"{4}", "map 0:_0 \"p\" _2",
            // Without of the column is looked at as soon as none can come; above 3 it is none of any.
            "map 0:_0 \"p\" $2", "map 0:_0 \"p\" $2.", "map 0:_0 \"p\" $2 x", "map 0:_0 \"p\" $2 o", "map 0:_0 \"p\" $2 ofof",
            "map 0:_0 \"p\" $4 of 1", "map 0:_0 \"p\" $4 of x", "map 0:_0 \"p\" $9999",
            // With of when the source is known.
            "map 0:_0 \"p\" $3 of 2 x", "map 0:_0 \"p\" $3 of 2", "map 0:_0 \"p\" $3 of 3", "map 0:_0 \"p\" $3 of 0",
            "map 0:_0 \"p\" $0 of 0", "map 0:_0 \"p\" $0 of 12345", "map 0:_0 \"p\" $3 of 1 by 2",
            "map 0:_0 \"p\" $3 of 1 by 1 4", "map 1:_0 \"p\" $1 of 0 by 3 2", "map 1:_0 \"p\" $1 of 0 by 4 2",
            good + " if $2=0.", good + " if null $2.", good + " in 10.", good + " in 0010x", good + " in 9999"};
        int[] places = {4, 4, 4, 7, 11, 11,
            8, 8, 14,
            14, 14, 14, 14, 14,
            14, 14, 14,
            14, 14, 19, 19,
            19, 19, 24,
            26, 26, 24,
            20, 25, 19, 19, 19};
        due("places told", places.length, texts.length);
        for (int i = 0; i < texts.length && i < places.length; i++) {
            dueRead(x, texts[i], -1000 - places[i]);
        }
        // A column that waits for its source does not hide a token that can't stand before that is known.
        dueRead(x, "map 0:_0 \"p\" $3 of x", -29);
        dueRead(x, "map 0:_0 \"p\" $3 of", -28);
    }

    private static void readLimits() {
        promise = "6 read, the limits";
        MappingText x = twoSources();
        String mapping = "map 0:_0\"p\"$0.";
        String six = mapping.repeat(6);
        dueRead(x, six, 6);
        dueRead(x, six + "map", -1000 - six.length());
        dueRead(x, six + " map 0", -1001 - six.length());
        dueRead(x, six + "mapp", -10 - six.length());
        dueRead(x, six + ".", -10 - six.length());
        String thirty = "map 0:\"" + "a".repeat(27) + "{0}\\{{1}";
        dueRead(x, thirty + "\" \"p\" $0.", 1);
        int end = thirty.length();
        dueRead(x, thirty + "b\" \"p\" $0.", -1000 - end);
        dueRead(x, thirty + "{0}\" \"p\" $0.", -1000 - end);
        dueRead(x, thirty + "\\\\\" \"p\" $0.", -1000 - end);
        dueRead(x, thirty + "}\" \"p\" $0.", -10 - end);
        dueRead(x, thirty + "\n", -10 - end);
        dueRead(x, thirty, -10 - end);
        String blanks = " ".repeat(500 - 3);
        dueRead(x, blanks + "map", -510);
        dueRead(x, blanks + "  .", -509);
        dueRead(x, mapping + " ".repeat(500 - mapping.length()), 1);
    }

    private static void readKeepsAndReplaces() {
        promise = "6 read, what stays";
        MappingText x = twoSources();
        x.row(0, 1, 2, 0, 0);
        dueRead(x, "map 0:\"a\" \"p\" $0 in 4.", 1);
        due("triples", allTriples(x), "N:a,N:p,V:1,4");
        dueRead(x, "map 0:\"b\" \"q\" _1 of", -27);
        due("triples stay", allTriples(x), "N:a,N:p,V:1,4");
        due("print stays", printed(x), "map 0 : \"a\" \"p\" $0 in 4 .\n");
        dueRead(x, "map 0:\"b\" \"q\" _2.", -1015);
        due("triples stay", allTriples(x), "N:a,N:p,V:1,4");
        // The text was emptied by the reads that failed, and the mappings are those of the last text alone.
        dueRead(x, "map 0:\"c\" \"q\" _1. map 0:\"d\" \"q\" $1.", 2);
        due("triples", allTriples(x), "N:c,N:q,B:0.2,0 N:d,N:q,V:2,0");
        dueRead(x, "map 0:\"e\" \"q\" \"o\".", 1);
        due("triples", allTriples(x), "N:e,N:q,N:o,0");
        due("read of no text", x.read(), 0);
        due("triples", x.triples(), 0);
    }

    private static void triplesAreDifferentAndOrdered() {
        promise = "7 triples";
        MappingText x = twoSources();
        int[] cells = {9, 10, 100, 1, 1000, 10};
        for (int cell : cells) {
            x.row(0, cell, 5, 0, 0);
        }
        due("triples without mappings", x.triples(), 0);
        dueRead(x, "map 0:\"{0}\" \"p\" \"o\".", 1);
        due("as rows of bytes", allTriples(x), "N:1,N:p,N:o,0 N:10,N:p,N:o,0 N:100,N:p,N:o,0 N:1000,N:p,N:o,0 "
                + "N:9,N:p,N:o,0");
        dueRead(x, "map 0:\"s\" \"p\" $0. map 0:\"s\" \"p\" _0. map 0:\"s\" \"p\" \"{0}\".", 3);
        due("by kinds", allTriples(x), "N:s,N:p,N:1,0 N:s,N:p,N:10,0 N:s,N:p,N:100,0 N:s,N:p,N:1000,0 "
                + "N:s,N:p,N:9,0 N:s,N:p,B:0.1,0 N:s,N:p,B:0.10,0 N:s,N:p,B:0.100,0 N:s,N:p,B:0.1000,0 N:s,N:p,B:0.9,0 "
                + "N:s,N:p,V:1,0 N:s,N:p,V:10,0 N:s,N:p,V:100,0 N:s,N:p,V:1000,0 N:s,N:p,V:9,0");
        x = twoSources();
        x.row(0, 1, 5, 0, 0);
        dueRead(x, "map 0:_1 \"b\" \"x\" in 3. map 0:_1 \"b\" \"x\". map 0:_1 \"ab\" \"y\" in 9."
                + "map 0:_1 \"b\" \"w\" in 5. map 0:\"z\" \"z\" \"z\". map 0:_1 \"b\" \"x\" in 0.", 6);
        due("by terms, then graphs", allTriples(x), "N:z,N:z,N:z,0 B:0.5,N:ab,N:y,9 B:0.5,N:b,N:w,5 "
                + "B:0.5,N:b,N:x,0 B:0.5,N:b,N:x,3");
        due("triples", x.triples(), 5);
        triplesWithLongNames();
    }

    private static void triplesWithLongNames() {
        MappingText x = twoSources();
        x.row(0, 1, 5, 0, 0);
        // Names that differ in their last byte alone, or by an end.
        dueRead(x, "map 0:\"aaaaaaaaaaaaaaaaaaab\" \"p\" \"o\". map 0:\"aaaaaaaaaaaaaaaaaaaa\" \"p\" \"o\"."
                + "map 0:\"aaaaaaaaaaaaaaaaaaa\" \"p\" \"o\". map 0:\"aaaaaaa\" \"p\" \"o\". map 0:\"aaaaaaaa\" \"p\" \"o\".", 5);
        due("long names", allTriples(x), "N:aaaaaaa,N:p,N:o,0 N:aaaaaaaa,N:p,N:o,0 N:aaaaaaaaaaaaaaaaaaa,N:p,N:o,0 "
                + "N:aaaaaaaaaaaaaaaaaaaa,N:p,N:o,0 N:aaaaaaaaaaaaaaaaaaab,N:p,N:o,0");
        dueRead(x, "map 0:\"~\" \"p\" \"o\". map 0:\" \" \"p\" \"o\". map 0:\"\\}\" \"p\" \"o\".", 3);
        due("all bytes that may stand", allTriples(x), "N: ,N:p,N:o,0 N:},N:p,N:o,0 N:~,N:p,N:o,0");
    }

    private static void triple() {
        promise = "8 triple";
        MappingText x = twoSources();
        x.row(0, 7, 1, 0, 0);
        x.row(0, 7, 1, 0, 0);
        x.row(0, 8, 2, 0, 0);
        x.row(1, 1, 33, 0, 0);
        x.row(1, 1, 33, 0, 0);
        dueRead(x, "map 0:\"k\" \"pp\" $1 of 1 by 0 0. map 0:\"k\" \"pp\" $1 of 1 by 1 0. map 0:_1 \"q\" \"x{0}y\" in 6."
                + "map 1:\"k\" \"pp\" $1.", 4);
        int[] joined = {0, 0, 2, 1, 2, 2, 0, 6, 1, 0};
        int[] blank = {1, 0, 0, 3, 1, 3, 6, 2, 2, 0};
        int[] later = {1, 0, 0, 3, 1, 3, 6, 1, 2, 2};
        due("triples", x.triples(), 3);
        for (int what = 0; what < 10; what++) {
            due("triple(0, " + what + ")", x.triple(0, what), joined[what]);
            due("triple(1, " + what + ")", x.triple(1, what), blank[what]);
            due("triple(2, " + what + ")", x.triple(2, what), later[what]);
            due("triple(3, " + what + ")", x.triple(3, what), NO);
            due("triple(-1, " + what + ")", x.triple(-1, what), NO);
        }
        int[] none = {-1, 10, Integer.MIN_VALUE, Integer.MAX_VALUE};
        for (int what : none) {
            due("triple(0, " + what + ")", x.triple(0, what), BAD);
            due("triple(9, " + what + ")", x.triple(9, what), BAD);
        }
        due("row 0 goes", x.change(0, 0, false), 0);
        due("the ways", x.triple(0, 7), 4);
        due("the least row", x.triple(0, 9), 1);
        due("row 1 goes", x.change(0, 1, false), 1);
        due("the ways", x.triple(0, 7), 2);
        due("the least mapping", x.triple(0, 8), 3);
        due("the least row of it", x.triple(0, 9), 0);
        due("the first row of source 1 goes", x.change(1, 0, false), 0);
        due("the least row of it", x.triple(0, 9), 1);
    }

    private static void conditionsAndNulls() {
        promise = "7 triples, conditions and NULLs";
        MappingText x = twoSources();
        x.row(0, 4, -1, 0, 0);
        x.row(0, 5, 5, 0, 0);
        x.row(0, 6, 0, 0, 0);
        x.row(0, -1, 6, 0, 0);
        dueRead(x, "map 0:\"s{0}\" \"p\" \"o\" if $0 = 5.", 1);
        due("=", allTriples(x), "N:s5,N:p,N:o,0");
        dueRead(x, "map 0:\"s{0}\" \"p\" \"o\" if $0 < 5.", 1);
        due("<", allTriples(x), "N:s4,N:p,N:o,0");
        dueRead(x, "map 0:\"s{0}\" \"p\" \"o\" if $0 > 5.", 1);
        due(">", allTriples(x), "N:s6,N:p,N:o,0");
        dueRead(x, "map 0:\"s{0}\" \"p\" \"o\" if null $1.", 1);
        due("null", allTriples(x), "N:s4,N:p,N:o,0");
        dueRead(x, "map 0:\"s\" \"p\" \"o\" if null $0. map 0:\"t\" \"p\" \"o\" if $1 < 1.", 2);
        due("null without a wish", allTriples(x), "N:s,N:p,N:o,0 N:t,N:p,N:o,0");
        due("by the row with NULL", x.triple(0, 9), 3);
        due("by the row with 0", x.triple(1, 9), 2);
        due("by no other one", x.triple(1, 7), 1);
        dueRead(x, "map 0:_0 \"p{1}\" \"o\".", 1);
        due("NULLs in the names", allTriples(x), "B:0.5,N:p5,N:o,0 B:0.6,N:p0,N:o,0");
        dueRead(x, "map 0:\"s\" \"p\" _1. map 0:\"s\" \"p\" $1. map 0:\"s\" \"p\" \"{1}\".", 3);
        due("NULLs in the object", allTriples(x), "N:s,N:p,N:0,0 N:s,N:p,N:5,0 N:s,N:p,N:6,0 "
                + "N:s,N:p,B:0.0,0 N:s,N:p,B:0.5,0 N:s,N:p,B:0.6,0 N:s,N:p,V:0,0 N:s,N:p,V:5,0 N:s,N:p,V:6,0");
    }

    private static void joins() {
        promise = "7 triples, joins";
        MappingText x = twoSources();
        x.row(1, 1, 11, 3, 0);
        x.row(1, 2, 12, 3, 0);
        x.row(1, -1, 13, -1, 0);
        x.row(1, 1, -1, 3, 0);
        x.row(1, 1, 14, 3, 0);
        x.row(0, 1, 3, 0, 0);
        x.row(0, -1, 3, 0, 0);
        x.row(0, 9, -1, 0, 0);
        dueRead(x, "map 0:\"s{0}\" \"p\" $1 of 1 by 0 0.", 1);
        due("by the keys", allTriples(x), "N:s1,N:p,V:11,0 N:s1,N:p,V:14,0");
        dueRead(x, "map 0:\"s\" \"p\" $1 of 1 by 0 0.", 1);
        due("a NULL joins none", allTriples(x), "N:s,N:p,V:11,0 N:s,N:p,V:14,0");
        due("in one way", x.triple(0, 7), 1);
        dueRead(x, "map 0:\"s\" \"p\" $1 of 1 by 1 2.", 1);
        due("by other columns", allTriples(x), "N:s,N:p,V:11,0 N:s,N:p,V:12,0 N:s,N:p,V:14,0");
        due("in two ways", x.triple(0, 7), 2);
        due("a joined row goes", x.change(1, 0, false), 1);
        due("without it", allTriples(x), "N:s,N:p,V:12,0 N:s,N:p,V:14,0");
        dueRead(x, "map 1:_0 \"p\" $0 of 0 by 2 1 if $1 = 12.", 1);
        due("the other way round", allTriples(x), "B:1.2,N:p,V:1,0");
        // As many ways as there can be: 6 mappings of 16 rows joined with 16.
        MappingText y = twoSources();
        for (int i = 0; i < 16; i++) {
            y.row(0, 1, i, 0, 0);
            y.row(1, 1, i % 8, 0, 0);
        }
        dueRead(y, "map 0:_1 \"p\" $1 of 1 by 0 0.".repeat(6), 6);
        due("triples", y.triples(), 128);
        due("ways of the last", y.triple(127, 7), 12);
        due("the last's least row", y.triple(127, 9), 9);
        due("which", y.which(5, 9, 15), 127);
        due("a joined row goes", y.change(1, 15, false), 0);
        due("the other one goes", y.change(1, 7, false), 16);
    }

    private static void byteOf() {
        promise = "9 byteOf";
        MappingText x = new MappingText();
        for (int i = 0; i < 4; i++) {
            x.source(4);
        }
        x.row(3, 9999, 0, 100, 42);
        dueRead(x, "map 3:_0 \"abcdefg{0}\\\\{1}{2}-ij\" $3.", 1);
        due("first", term(x, 0, 0), "B:3.9999");
        due("second", term(x, 0, 1), "N:abcdefg9999\\0100-ij");
        due("third", term(x, 0, 2), "V:42");
        int[] lengths = {6, 19, 2};
        for (int term = 0; term < 3; term++) {
            due("its length", x.triple(0, 3 + term), lengths[term]);
            due("behind its end", x.byteOf(0, term, lengths[term]), BAD);
            due("far behind its end", x.byteOf(0, term, Integer.MAX_VALUE), BAD);
            due("before its beginning", x.byteOf(0, term, -1), BAD);
            due("of triple 1", x.byteOf(1, term, 0), BAD);
            due("of triple -1", x.byteOf(-1, term, 0), BAD);
        }
        due("of term 3", x.byteOf(0, 3, 0), BAD);
        due("of term -1", x.byteOf(0, -1, 0), BAD);
        due("its first byte", x.byteOf(0, 1, 0), 'a');
        due("its last byte", x.byteOf(0, 1, 18), 'j');
    }

    private static void which() {
        promise = "10 which";
        MappingText x = twoSources();
        x.row(0, 2, 1, 0, 0);
        x.row(0, 1, 1, 0, 0);
        x.row(0, -1, -1, 0, 0);
        x.row(1, 1, 8, 0, 0);
        x.row(1, 2, 7, 0, 0);
        x.row(1, 1, 7, 0, 0);
        dueRead(x, "map 0:\"{0}\" \"p\" \"o\". map 0:\"z\" \"p\" $1 of 1 by 1 0.", 2);
        due("triples", allTriples(x), "N:1,N:p,N:o,0 N:2,N:p,N:o,0 N:z,N:p,V:7,0 N:z,N:p,V:8,0");
        due("row 0", x.which(0, 0, 0), 1);
        due("row 1, other is not looked at", x.which(0, 1, -7), 0);
        due("row 1, other is not looked at", x.which(0, 1, 99), 0);
        due("row 2", x.which(0, 2, 0), NO);
        due("joined with 0", x.which(1, 0, 0), 3);
        due("joined with 1", x.which(1, 0, 1), NO);
        due("joined with 2", x.which(1, 1, 2), 2);
        due("no such row joined", x.which(1, 0, 3), BAD);
        due("row -1 joined", x.which(1, 0, -1), BAD);
        due("no such row", x.which(0, 3, 0), BAD);
        due("no such row with a join", x.which(1, 3, 0), BAD);
        due("row -1", x.which(0, -1, 0), BAD);
        due("no such mapping", x.which(2, 0, 0), BAD);
        due("mapping -1", x.which(-1, 0, 0), BAD);
        x.change(0, 0, false);
        due("a row that is not there", x.which(0, 0, 0), NO);
        due("a row that is not there, joined", x.which(1, 0, 0), NO);
        due("the row behind it", x.which(1, 1, 0), 2);
        x.change(1, 0, false);
        due("a joined row that is not there", x.which(1, 1, 0), NO);
    }

    private static void badRows() {
        promise = "11 bads, 12 bad";
        MappingText x = twoSources();
        due("bads", x.bads(), 0);
        x.row(0, 1, 99, 0, 0);
        x.row(0, 12, -1, 0, 0);
        x.row(0, 123, 9, 0, 0);
        x.row(1, 1, 1, 1, 1);
        String eighteen = "a".repeat(18);
        dueRead(x, "map 0:\"x\" \"" + eighteen + "{0}\" \"o\".", 1);
        due("more than 20 bytes alone", x.bads(), 1);
        due("its mapping", x.bad(0, 0), 0);
        due("its row", x.bad(0, 1), 2);
        due("its name", x.bad(0, 2), 1);
        due("20 bytes are given", allTriples(x), "N:x,N:" + eighteen + "1,N:o,0 N:x,N:" + eighteen + "12,N:o,0");
        due("of a bad row", x.which(0, 2, 0), NO);
        due("it goes", x.change(0, 2, false), 0);
        due("it is not bad then", x.bads(), 0);
        x.change(0, 2, true);
        // 0: an empty third; 1: a condition; 2: a name that wants a NULL; 3: a value that is NULL does not matter.
        dueRead(x, "map 0:\"x\" \"p\" \"\". map 0:\"\" \"\" \"\" if $0 > 100. map 0:_1 \"\" \"o\"."
                + "map 0:\"" + "b".repeat(21) + "\" \"\" $1. map 0:\"x{1}\" \"p\" \"\". map 0:\"\" \"p\" $1 of 1 by 0 0.", 6);
        int[][] pairs = {{0, 0, 2}, {0, 1, 2}, {0, 2, 2}, {1, 2, 0}, {2, 0, 1}, {2, 2, 1}, {3, 0, 0}, {3, 1, 0}, {3, 2, 0},
            {4, 0, 2}, {4, 2, 2}, {5, 0, 0}, {5, 1, 0}, {5, 2, 0}};
        due("bads", x.bads(), pairs.length);
        for (int i = 0; i < pairs.length; i++) {
            for (int what = 0; what < 3; what++) {
                due("bad(" + i + ", " + what + ")", x.bad(i, what), pairs[i][what]);
            }
        }
        due("nothing is given", x.triples(), 0);
        for (int what = 0; what < 3; what++) {
            due("bad behind the end", x.bad(pairs.length, what), NO);
            due("bad(-1, ..)", x.bad(-1, what), NO);
        }
        due("another what", x.bad(0, 3), BAD);
        due("what -1", x.bad(0, -1), BAD);
        due("another what behind the end", x.bad(99, 3), BAD);
        dueRead(x, "map 0:\"" + "{0}".repeat(30) + "\" \"p\" \"o\".", 1);
        due("a name far too long", x.bads(), 3);
        // A name that wants a NULL behind one that is empty: then the row is not bad.
        dueRead(x, "map 0:\"\" \"p\" \"{1}\" if null $1.", 1);
        due("bads", x.bads(), 0);
    }

    private static void print() {
        promise = "13 print";
        MappingText x = twoSources();
        dueRead(x, "map 000:_01\"a\\\\\\\"\\{\\}{0000} {01}\"$0003of 1by 0 0003if$1<0070in 00.\nmap 1:\"\" \"\" \"\"."
                + "map 1:_0\"p\"_3if null$2.map 1:\"s\"\"p\"$2if$0=0000in 7.map 0:\"s\"\"p\"$1if$0>9999.", 5);
        String due = "map 0 : _1 \"a\\\\\\\"\\{\\}{0} {1}\" $3 of 1 by 0 3 if $1 < 70 in 0 .\nmap 1 : \"\" \"\" \"\" .\n"
                + "map 1 : _0 \"p\" _3 if null $2 .\nmap 1 : \"s\" \"p\" $2 if $0 = 0 in 7 .\n"
                + "map 0 : \"s\" \"p\" $1 if $0 > 9999 .\n";
        due("printed", printed(x), due);
        due("print()", x.print(), due.length());
        dueRead(x, due, 5);
        due("what was printed, read and printed again", printed(x), due);
        printOfFullTexts();
    }

    private static void printOfFullTexts() {
        // A text without blanks grows the most.
        MappingText y = twoSources();
        dueRead(y, "map0:_0\"p\"$0of1by00000if$0<0in0.".repeat(6), 6);
        due("printed", printed(y), "map 0 : _0 \"p\" $0 of 1 by 0 0 if $0 < 0 in 0 .\n".repeat(6));
        y = twoSources();
        String longest = "a".repeat(30);
        String mapping = "map0:\"" + longest + "\"\"" + "p".repeat(15) + "\"$0of1by00000if$0<0in0.";
        String all = mapping.repeat(6) + " ".repeat(500 - 6 * mapping.length());
        dueRead(y, all, 6);
        String due = ("map 0 : \"" + longest + "\" \"" + "p".repeat(15)
                + "\" $0 of 1 by 0 0 if $0 < 0 in 0 .\n").repeat(6);
        due("print()", y.print(), due.length());
        for (int i = 0; i < due.length(); i += 2) {
            due("at(" + i + ")", y.at(i), due.charAt(i));
        }
        due("read of no text", y.read(), 0);
        due("print()", y.print(), 0);
    }

    private static void at() {
        promise = "14 at";
        MappingText x = twoSources();
        due("at(0) before a print", x.at(0), BAD);
        dueRead(x, "map 0:_0\"p\"$0.", 1);
        due("at(0) before a print", x.at(0), BAD);
        String first = "map 0 : _0 \"p\" $0 .\n";
        due("print()", x.print(), first.length());
        dueRead(x, "map 1:_0\"q\"_1.map", -27);
        dueRead(x, "map 1:_0\"q\"_1.", 1);
        for (int i = 0; i < first.length(); i++) {
            due("at(" + i + "), of what was printed last", x.at(i), first.charAt(i));
        }
        due("at its end", x.at(first.length()), BAD);
        due("at(-1)", x.at(-1), BAD);
        due("at of the least int", x.at(Integer.MIN_VALUE), BAD);
        due("at of the greatest int", x.at(Integer.MAX_VALUE), BAD);
        x.print();
        due("at(4) after the next print", x.at(4), '1');
        x.read();
        due("print of nothing", x.print(), 0);
        due("at(0) then", x.at(0), BAD);
    }
}
