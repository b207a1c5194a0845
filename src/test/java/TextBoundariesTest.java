import java.util.ArrayList;
import java.util.Arrays;
import java.util.List;

/**
 * The sentences of the document that name a boundary of the text, of its reading and of its printing (the Terms, and
 * promises 5, 6, 13 and 14), a test for each, on both sides of the boundary. In a text here the sign ^ stands before
 * the byte where the reading has to tell its fault; it is taken out before the text is typed.
 */
public final class TextBoundariesTest {
    private static final int BAD = -1;
    private static final int FULL = -2;
    private static final int MOST_BYTES = 500;
    private static final int[] FAR = {Integer.MIN_VALUE, Integer.MIN_VALUE + 1, Integer.MAX_VALUE - 1, Integer.MAX_VALUE};

    private static int wrong = 0;
    private static int checks = 0;
    private static int sentences = 0;
    private static String sentence = "";

    public static void main(String[] args) {
        textOf500Bytes();
        typeOf1To8Bytes();
        typeTakesTheLowestBytes();
        typeRefusesAndLeavesTheText();
        blanksBetweenTokens();
        wordsAsLongAsTheyCanBe();
        signs();
        numbersOf1To4Digits();
        bytesOfTemplates();
        escapesOfTemplates();
        columnsOfTemplates();
        tokensThatCanStand();
        textsThatEndTooSoon();
        tokensThatAreNone();
        sourcesThatThereAre();
        sourceBehindOf();
        columnsOfTheMappingsSource();
        columnsOfTheSourceBehindOf();
        whenAnObjectsColumnIsLookedAt();
        graphs();
        secondNameIsATemplate();
        sixMappings();
        thirtyPieces();
        firstFaultByPlace();
        readOfAnEmptyText();
        readThatFails();
        readThatIsGood();
        readAfterOtherReads();
        printOfNothing();
        printedNumbers();
        printedEscapes();
        printedBlanks();
        printOfTheMost();
        atItsEnds();
        atOfWhatWasPrintedLast();
        sentence("");
        System.out.println(wrong == 0 ? sentences + " sentences of the text hold, by " + checks + " checks"
                : wrong + " answers are not as due");
        if (wrong != 0) {
            System.exit(1);
        }
    }

    // What the tests are told with.

    private static int checksBefore = 0;

    private static void sentence(String words) {
        if (!sentence.isEmpty()) {
            sentences++;
            if (checks == checksBefore) {
                wrong++;
                System.out.println("\"" + sentence + "\" was not tested");
            }
        }
        checksBefore = checks;
        sentence = words;
    }

    private static void due(String call, int got, int want) {
        checks++;
        if (got != want) {
            wrong++;
            System.out.println("\"" + sentence + "\": " + call + " answered " + got + ", due is " + want);
        }
    }

    private static void due(String what, String got, String want) {
        checks++;
        if (!got.equals(want)) {
            wrong++;
            System.out.println("\"" + sentence + "\": " + what + " is <" + got + ">, due is <" + want + ">");
        }
    }

    private static MappingText with(int... columns) {
        MappingText x = new MappingText();
        for (int i = 0; i < columns.length; i++) {
            due("source(" + columns[i] + ")", x.source(columns[i]), i);
        }
        return x;
    }

    private static long packed(String text, int from, int n) {
        long bytes = 0;
        for (int i = 0; i < n; i++) {
            bytes = bytes << 8 | text.charAt(from + i);
        }
        return bytes;
    }

    private static void typeText(MappingText x, String text) {
        for (int from = 0; from < text.length(); from += 8) {
            int n = Math.min(8, text.length() - from);
            due("type of part of <" + text + ">", x.type(packed(text, from, n), n), from + n);
        }
    }

    private static void reads(MappingText x, String text, int want) {
        typeText(x, text);
        due("read of <" + text + ">", x.read(), want);
    }

    private static void fault(MappingText x, int base, String marked) {
        int place = marked.indexOf('^');
        reads(x, marked.substring(0, place) + marked.substring(place + 1), base - place);
    }

    private static void wrongAt(MappingText x, String marked) {
        fault(x, -10, marked);
    }

    private static void mayNotAt(MappingText x, String marked) {
        fault(x, -1000, marked);
    }

    /** Of sources with 2 and 4 columns. */
    private static void good(String text) {
        int mappings = 0;
        for (int at = text.indexOf("map"); at >= 0; at = text.indexOf("map", at + 3)) {
            mappings++;
        }
        reads(with(2, 4), text, mappings);
    }

    private static void wrongAt(String marked) {
        wrongAt(with(2, 4), marked);
    }

    private static void mayNotAt(String marked) {
        mayNotAt(with(2, 4), marked);
    }

    private static String printed(MappingText x) {
        int n = x.print();
        StringBuilder told = new StringBuilder();
        for (int i = 0; i < n; i++) {
            told.append((char) x.at(i));
        }
        return told.toString();
    }

    private static void prints(String text, String want) {
        MappingText x = with(2, 4);
        typeText(x, text);
        due("read of <" + text + "> is good", x.read() >= 0 ? 1 : 0, 1);
        due("what was printed of <" + text + ">", printed(x), want);
        due("print()", x.print(), want.length());
    }

    private static String joined(List<String> tokens, int from, int to) {
        return String.join(" ", tokens.subList(from, to));
    }

    /** A mapping with every part that may stand; its source has 4 columns and the one behind of has 2. */
    private static List<String> fullMapping() {
        return new ArrayList<>(Arrays.asList("map", "1", ":", "_", "3", "\"p\"", "$", "1", "of", "0", "by", "3", "1", "if", "$", "3",
                "<", "7", "in", "9", "."));
    }

    private static List<String> nullMapping() {
        return new ArrayList<>(Arrays.asList("map", "1", ":", "\"s\"", "\"p\"", "_", "3", "if", "null", "$", "3", "."));
    }

    // Terms and promise 5: the text.

    private static void textOf500Bytes() {
        sentence("THE TEXT is a row of bytes, at most 500");
        for (int n = 1; n <= 8; n++) {
            MappingText x = new MappingText();
            int length = 0;
            while (length + n <= MOST_BYTES) {
                length += n;
                due("type of " + n, x.type(0x2020202020202020L, n), length);
            }
            due("type of " + n + " beyond 500", x.type(0x2020202020202020L, n), FULL);
            if (length < MOST_BYTES) {
                due("type of the rest", x.type(0x2020202020202020L, MOST_BYTES - length), MOST_BYTES);
            }
            due("type of 1 beyond 500", x.type(0x20, 1), FULL);
        }
        MappingText x = with(2, 4);
        String mapping = "map 0:_0\"p\"$0.";
        reads(x, " ".repeat(MOST_BYTES - mapping.length()) + mapping, 1);
        reads(x, " ".repeat(MOST_BYTES - 1) + ";", -10 - 499);
        reads(x, " ".repeat(MOST_BYTES - 3) + "map", -10 - 500);
        reads(x, " ".repeat(MOST_BYTES - 5) + "map 2", -1000 - 499);
    }

    private static void typeOf1To8Bytes() {
        sentence("The lowest n (1 .. 8) bytes");
        for (int n = 1; n <= 8; n++) {
            due("type of " + n, new MappingText().type(0, n), n);
        }
        due("type of 0", new MappingText().type(0, 0), BAD);
        due("type of -1", new MappingText().type(0, -1), BAD);
        due("type of 9", new MappingText().type(0, 9), BAD);
        for (int n : FAR) {
            due("type of " + n, new MappingText().type(0, n), BAD);
        }
    }

    private static void typeTakesTheLowestBytes() {
        sentence("bytes of bytes, the highest of them first");
        String text = "map 0:_0";
        for (int n = 1; n <= 8; n++) {
            // All above the lowest n would be wrong if they were looked at; for 8 there are none.
            long above = n == 8 ? 0 : -1L << 8 * n;
            MappingText x = with(1);
            due("type of " + n, x.type(above | packed(text, 0, n), n), n);
            int rest = text.length() - n;
            if (rest > 0) {
                due("type of the rest", x.type(packed(text, n, rest), rest), 8);
            }
            typeEnd(x, "\"p\"$0.");
            due("print()", x.print(), "map 0 : _0 \"p\" $0 .\n".length());
        }
        sentence("THE TEXT is a row of bytes: those from 128 on among them");
        MappingText x = with(1);
        due("type of a negative long", x.type(-1L, 8), 8);
        due("read", x.read(), -10);
        due("type of bytes 32 and 255", x.type(0x20FF, 2), 2);
        due("read", x.read(), -11);
        due("type of a byte 0", x.type(0x2000, 2), 2);
        due("read", x.read(), -11);
        due("type of bytes 160 and 138", x.type(0x20A08AL, 3), 3);
        due("read", x.read(), -11);
    }

    private static void typeEnd(MappingText x, String text) {
        due("type of the end", x.type(packed(text, 0, text.length()), text.length()), 8 + text.length());
        due("read", x.read(), 1);
    }

    private static void typeRefusesAndLeavesTheText() {
        sentence("come to the text: its length. BAD; FULL.");
        MappingText x = with(1);
        due("type of one", x.type('m', 1), 1);
        due("type that is BAD", x.type(0x7878787878787878L, 9), BAD);
        due("type that is BAD", x.type(0x78, 0), BAD);
        due("type of two", x.type(0x6170, 2), 3);
        for (int length = 3; length < 499; length += 8) {
            due("type of eight", x.type(0x2020202020202020L, 8), length + 8);
        }
        due("type that is FULL", x.type(0x7878, 2), FULL);
        due("a full text and a wrong n", x.type(0x78, 9), BAD);
        due("a full text and a wrong n", x.type(0x78, 0), BAD);
        due("type up to 500", x.type('0', 1), 500);
        due("type that is FULL", x.type(0x78, 1), FULL);
        // The 0 at place 499 is the map's source; what was refused is not in the text.
        due("read", x.read(), -510);
        due("type to the text that is empty then", x.type(0x20, 1), 1);
    }

    // Terms: the tokens.

    private static void blanksBetweenTokens() {
        sentence("between which any bytes 32 and 10 may stand");
        List<String> tokens = fullMapping();
        good(String.join(" ", tokens));
        good(String.join("\n", tokens));
        good(" \n\n  " + String.join(" \n \n", tokens) + "\n \n");
        // None at all, but between two words or two numbers, which would be one.
        good(String.join("", tokens).replace("31if", "3 1if"));
        good("map1:_0003\"p\"$0001of0by00031if$0003<0007in0009.");
        good("map1:\"s\"\"p\"_3if null$3.");
        int[] others = {0, 1, 8, 9, 11, 12, 13, 31, 33, 42, 127, 133, 138, 160, 255};
        for (int gap = 0; gap <= tokens.size(); gap++) {
            String before = joined(tokens, 0, gap);
            String behind = joined(tokens, gap, tokens.size());
            good(before + " \n " + behind);
            for (int other : others) {
                wrongAt(before + " ^" + (char) other + " " + behind);
            }
        }
    }

    private static void wordsAsLongAsTheyCanBe() {
        sentence("Words and numbers are as long as they can be (letters a to z; digits");
        for (List<String> tokens : Arrays.asList(fullMapping(), nullMapping())) {
            for (int i = 0; i < tokens.size(); i++) {
                String word = tokens.get(i);
                if (word.length() > 1 && Character.isLetter(word.charAt(0))) {
                    String before = joined(tokens, 0, i) + " ";
                    String behind = " " + joined(tokens, i + 1, tokens.size());
                    good(before + word + behind);
                    String shorter = word.substring(0, word.length() - 1);
                    String[] others = {word + "a", word + "z", word + word, "a" + word, shorter, word.toUpperCase(),
                        shorter + " " + word.substring(shorter.length()), shorter + "z", word.substring(1), word + "map"};
                    for (String other : others) {
                        wrongAt(before + "^" + other + behind);
                    }
                }
            }
        }
        // What is no letter ends a word: the bytes beside a and z among them, which may not stand there then.
        wrongAt("map^`0:_0\"p\"$0.");
        wrongAt("map^{0:_0\"p\"$0.");
        wrongAt("map^A0:_0\"p\"$0.");
        wrongAt("map^/0:_0\"p\"$0.");
        wrongAt("map^:0:_0\"p\"$0.");
        wrongAt("map 0^/:_0\"p\"$0.");
        good("map0:_0\"p\"$0.map0:_0\"p\"$0.");
    }

    private static void signs() {
        sentence("the signs : . $ _ = < and >");
        good("map 0 : _ 0 \"p\" $ 0 if $ 0 = 1 .");
        good("map 0 : _ 0 \"p\" $ 0 if $ 0 < 1 .");
        good("map 0 : _ 0 \"p\" $ 0 if $ 0 > 1 .");
        wrongAt("map 0 : _ 0 \"p\" $ 0 if $ 0 <^= 1 .");
        wrongAt("map 0 : _ 0 \"p\" $ 0 if $ 0 ^! 1 .");
        wrongAt("map 0 :^: _ 0 \"p\" $ 0 .");
        wrongAt("map 0 : _^_ 0 \"p\" $ 0 .");
        wrongAt("map 0 : _ 0 \"p\" $^$ 0 .");
        wrongAt("map 0 : _ 0 \"p\" $ 0 .^.");
        for (int b = 0; b < 256; b++) {
            boolean stands = b == ':' || b == ' ' || b == 10;
            if (!stands && (b < '0' || b > '9')) {
                wrongAt("map 0^" + (char) b);
            }
        }
    }

    private static void numbersOf1To4Digits() {
        sentence("a NUMBER of 1 to 4 digits");
        String mapping = "map 0 : _ 0 \"p\" $ 0 if $ 0 = ";
        String[] numbers = {"0", "9", "10", "99", "100", "999", "1000", "9999", "0000", "0009", "00", "010"};
        for (String number : numbers) {
            good(mapping + number + ".");
        }
        good("map 0001 : _ 0003 \"p{0003}\" $ 0001 of 0000 by 0003 0001 if $ 0003 = 0000 in 0009 .");
        wrongAt(mapping + "^.");
        sentence("a fifth digit is a token of its own");
        wrongAt(mapping + "1234^5.");
        wrongAt(mapping + "0000^0.");
        wrongAt("map 0000^0 : _0 \"p\" $0.");
        wrongAt("map 0 : _0000^1 \"p\" $0.");
        wrongAt("map 0 : _0 \"p\" $0000^1.");
        wrongAt("map 0 : _0 \"p\" $0 in 0009^9.");
        mayNotAt("map ^00021 : _0 \"p\" $0.");
        // Behind by two numbers stand, so it can be the second one.
        prints("map 0:_0 \"p\" $0 of 1 by 00013.", "map 0 : _0 \"p\" $0 of 1 by 1 3 .\n");
        mayNotAt("map 0:_0 \"p\" $0 of 1 by 0001^4.");
        wrongAt("map 0:_0 \"p\" $0 of 1 by 0001^.");
    }

    private static void bytesOfTemplates() {
        sentence("A piece is a byte 32 .. 126 other than 34, 92, 123, 125");
        for (int b = 0; b < 256; b++) {
            if (b == '"' || b == '\\' || b == '{') {
                continue;
            }
            String piece = "" + (char) b;
            if (b >= 32 && b <= 126 && b != '}') {
                MappingText x = with(2, 4);
                due("row", x.row(0, 1, 1, 0, 0), 0);
                reads(x, "map 0:\"" + piece + "\" \"p" + piece + "\" \"" + piece + "o\".", 1);
                due("byte " + b + " of a name", x.byteOf(0, 0, 0), b);
                due("byte " + b + " of a name", x.byteOf(0, 1, 1), b);
                due("byte " + b + " of a name", x.byteOf(0, 2, 0), b);
                due("its length", x.triple(0, 3), 1);
            } else {
                fault(with(2, 4), -10, "map 0:\"a^" + piece + "a\" \"p\" \"o\".");
                fault(with(2, 4), -10, "map 0:\"s\" \"^" + piece + "\" \"o\".");
                fault(with(2, 4), -10, "map 0:\"s\" \"p\" \"o^" + piece + "\".");
            }
        }
        // A byte 34 ends it.
        wrongAt("map 0:\"a\"^a\" \"p\" \"o\".");
    }

    private static void escapesOfTemplates() {
        sentence("or 92 and one of these four, which is meant then");
        for (int b = 0; b < 256; b++) {
            char c = (char) b;
            if (b == '"' || b == '\\' || b == '{' || b == '}') {
                MappingText x = with(2, 4);
                due("row", x.row(0, 1, 1, 0, 0), 0);
                reads(x, "map 0:\"\\" + c + "0\\" + c + "\" \"p\" \"o\".", 1);
                due("byte " + b + " of a name", x.byteOf(0, 0, 0), b);
                due("the byte behind", x.byteOf(0, 0, 1), '0');
                due("byte " + b + " of a name", x.byteOf(0, 0, 2), b);
                due("its length", x.triple(0, 3), 3);
            } else {
                reads(with(2, 4), "map 0:\"a\\" + c + "\" \"p\" \"o\".", -10 - 9);
            }
        }
        wrongAt("map 0:\"\\^");
        wrongAt("map 0:\"\\\"^");
        wrongAt("map 0:\"\\\\\\^a");
    }

    private static void columnsOfTemplates() {
        sentence("or 123, a number, 125 (with nothing between): a column");
        good("map 1:\"{0}{1}{2}{3}\" \"{00}{000}\" \"{0003}\".");
        for (int b = 0; b < 256; b++) {
            char c = (char) b;
            if (b < '0' || b > '9') {
                reads(with(2, 4), "map 1:\"{" + c + "0}\" \"p\" \"o\".", -10 - 8);
                if (c != '}') {
                    reads(with(2, 4), "map 1:\"{0" + c + "}\" \"p\" \"o\".", -10 - 9);
                }
            }
        }
        wrongAt("map 0:\"{^");
        wrongAt("map 0:\"{0^");
        wrongAt("map 0:\"{0}^");
        wrongAt("map 0:\"{^}\"");
        wrongAt("map 0:\"{^{0}}\"");
        wrongAt("map 0:\"{0}^}\"");
        wrongAt("map 0:\"{0000^0}\"");
        wrongAt("map 0:\"{0^\\}\"");
    }

    // Terms: the grammar.

    /** What may stand behind a beginning; T is a template and 0 a number. */
    private static final String[][] STATES = {
        {"", "map"},
        {"map", "0"},
        {"map 1", ":"},
        {"map 1 :", "T _"},
        {"map 1 : _", "0"},
        {"map 1 : _ 3", "T"},
        {"map 1 : \"s\"", "T"},
        {"map 1 : \"s\" \"p\"", "T _ $"},
        {"map 1 : \"s\" \"p\" \"o\"", "if in ."},
        {"map 1 : \"s\" \"p\" _", "0"},
        {"map 1 : \"s\" \"p\" _ 3", "if in ."},
        {"map 1 : \"s\" \"p\" $", "0"},
        {"map 1 : \"s\" \"p\" $ 3", "of if in ."},
        {"map 1 : \"s\" \"p\" $ 1 of", "0"},
        {"map 1 : \"s\" \"p\" $ 1 of 0", "by"},
        {"map 1 : \"s\" \"p\" $ 1 of 0 by", "0"},
        {"map 1 : \"s\" \"p\" $ 1 of 0 by 3", "0"},
        {"map 1 : \"s\" \"p\" $ 1 of 0 by 3 1", "if in ."},
        {"map 1 : \"s\" \"p\" $ 1 if", "$ null"},
        {"map 1 : \"s\" \"p\" $ 1 if $", "0"},
        {"map 1 : \"s\" \"p\" $ 1 if $ 3", "= < >"},
        {"map 1 : \"s\" \"p\" $ 1 if $ 3 =", "0"},
        {"map 1 : \"s\" \"p\" $ 1 if $ 3 <", "0"},
        {"map 1 : \"s\" \"p\" $ 1 if $ 3 >", "0"},
        {"map 1 : \"s\" \"p\" $ 1 if $ 3 = 7", "in ."},
        {"map 1 : \"s\" \"p\" $ 1 if null", "$"},
        {"map 1 : \"s\" \"p\" $ 1 if null $", "0"},
        {"map 1 : \"s\" \"p\" $ 1 if null $ 3", "in ."},
        {"map 1 : \"s\" \"p\" $ 1 in", "0"},
        {"map 1 : \"s\" \"p\" $ 1 in 9", "."},
        {"map 1 : \"s\" \"p\" $ 1 if $ 3 = 7 in 9", "."},
        {"map 1 : \"s\" \"p\" $ 1 .", "map"},
        {"map 1 : \"s\" \"p\" $ 1 . map 1 : \"s\" \"p\" $ 1 in 9 .", "map"}};

    private static final String[] TOKENS = {"map", "if", "in", "of", "by", "null", ":", ".", "$", "_", "=", "<", ">", "0", "T"};

    private static void tokensThatCanStand() {
        sentence("It is WRONG at the first byte of the first token that can't stand where it does");
        for (String[] state : STATES) {
            List<String> allowed = Arrays.asList(state[1].split(" "));
            for (String token : TOKENS) {
                String told = token.equals("T") ? "\"t\"" : token;
                String before = state[0].isEmpty() ? "" : state[0] + " ";
                if (!allowed.contains(token)) {
                    wrongAt(before + "^" + told);
                    // What comes behind is not looked at.
                    wrongAt(before + "^" + told + " map 1 : \"s\" \"p\" \"o\" .");
                } else if (token.equals(".")) {
                    good(before + told);
                } else {
                    wrongAt(before + told + " ^");
                    wrongAt(before + told + "\n^;");
                }
            }
        }
    }

    private static void textsThatEndTooSoon() {
        sentence("or at the text's length, when it ends too soon");
        for (List<String> tokens : Arrays.asList(fullMapping(), nullMapping())) {
            for (int i = 1; i < tokens.size(); i++) {
                wrongAt(joined(tokens, 0, i) + "^");
                wrongAt(joined(tokens, 0, i) + " \n ^");
            }
            good(joined(tokens, 0, tokens.size()));
            good(joined(tokens, 0, tokens.size()) + " \n ");
        }
        wrongAt("map 0:\"^");
        wrongAt("map 0:\"abc^");
        wrongAt("map 0:\"abc ^");
        wrongAt("map 0:_0 \"p\" \"o^");
    }

    private static void tokensThatAreNone() {
        sentence("(also for one that is none; in a template at its first byte that can't stand there)");
        String[] none = {";", "zoo", "a", "maps", "Map", "-1", "+", "%", "(", "'", "\\", "{0}", "}", "\t", "\r", "\u0000", "\u007f", "\u00ff"};
        for (String[] state : STATES) {
            String before = state[0].isEmpty() ? "" : state[0] + " ";
            for (String other : none) {
                wrongAt(before + "^" + other);
            }
        }
        wrongAt("map 0:\"ab^\ncd\"");
        wrongAt("map 0:\"ab\\^xd\"");
        wrongAt("map 0:\"ab{^x}d\"");
        wrongAt("map 0:\"ab{0^x}d\"");
        // A template that can't stand is wrong at its quote, whatever is in it.
        wrongAt("map ^\"ab\ncd\"");
        wrongAt("map 0 ^\"ab");
    }

    // Terms: numbers in their ranges.

    /** A number at the sign # is taken below the limit, and from there on it may not be. */
    private static void range(int[] columns, String text, int limit) {
        for (int number = 0; number <= limit + 1; number++) {
            String[] told = {"" + number, String.format("%04d", number)};
            for (String digits : told) {
                if (number < limit) {
                    reads(with(columns), text.replace("#", digits), 1);
                } else {
                    mayNotAt(with(columns), text.replace("#", "^" + digits));
                    // Though the text ends or is wrong just behind it.
                    mayNotAt(with(columns), text.substring(0, text.indexOf('#')) + "^" + digits);
                    mayNotAt(with(columns), text.substring(0, text.indexOf('#')) + "^" + digits + ";");
                }
            }
        }
        mayNotAt(with(columns), text.replace("#", "^9999"));
        mayNotAt(with(columns), text.replace("#", "^99990"));
    }

    private static void sourcesThatThereAre() {
        sentence("A SOURCE is one that there is");
        for (int sources = 0; sources <= 4; sources++) {
            int[] columns = new int[sources];
            Arrays.fill(columns, 1);
            range(columns, "map #:_0 \"p\" $0.", sources);
        }
        // What is no number is wrong, also where no number may be.
        wrongAt(with(), "map ^/");
        wrongAt(with(), "map ^:");
        wrongAt(with(), "map ^x");
        wrongAt(with(), "map^");
        // One that comes later is one then.
        MappingText x = with(2);
        mayNotAt(x, "map ^1:_0 \"p\" $0.");
        mayNotAt(x, "map 0:_0 \"p\" $0 of ^1 by 0 0.");
        due("source(1)", x.source(1), 1);
        reads(x, "map 1:_0 \"p\" $0.", 1);
        reads(x, "map 0:_0 \"p\" $0 of 1 by 0 0.", 1);
    }

    private static void sourceBehindOf() {
        sentence("that behind of another one than the mapping's");
        for (int sources = 1; sources <= 4; sources++) {
            int[] columns = new int[sources];
            Arrays.fill(columns, 1);
            for (int own = 0; own < sources; own++) {
                String mapping = "map " + own + ":_0 \"p\" $0 of ";
                for (int other = 0; other <= sources; other++) {
                    if (other == own || other == sources) {
                        mayNotAt(with(columns), mapping + "^" + other + " by 0 0.");
                        mayNotAt(with(columns), mapping + "^000" + other);
                    } else {
                        reads(with(columns), mapping + other + " by 0 0.", 1);
                    }
                }
                mayNotAt(with(columns), mapping + "^9999 by 0 0.");
                wrongAt(with(columns), mapping + "^/ by 0 0.");
                wrongAt(with(columns), mapping + "^: by 0 0.");
            }
        }
    }

    private static void columnsOfTheMappingsSource() {
        sentence("A COLUMN is one of the mapping's source");
        String[] places = {"map 0:_# \"p\" \"o\".", "map 0:\"{#}\" \"p\" \"o\".", "map 0:\"s\" \"a{#}\" \"o\".", "map 0:\"s\" \"p\" \"{#}b\".",
            "map 0:\"s\" \"p\" _#.", "map 0:\"s\" \"p\" $#.", "map 0:\"s\" \"p\" $ # if $0 = 1.", "map 0:\"s\" \"p\" $# in 1.",
            "map 0:\"s\" \"p\" \"o\" if $# = 1.", "map 0:\"s\" \"p\" \"o\" if $# < 1.", "map 0:\"s\" \"p\" $0 if $# > 1 in 3.",
            "map 0:\"s\" \"p\" \"o\" if null $#.", "map 0:\"s\" \"p\" $0 of 1 by # 0."};
        for (int width = 1; width <= 4; width++) {
            for (int other = 1; other <= 4; other += 3) {
                for (String place : places) {
                    range(new int[] {width, other}, place, width);
                }
            }
        }
    }

    private static void columnsOfTheSourceBehindOf() {
        sentence("that of an object with of, and the second one behind by, one of the source behind of");
        for (int width = 1; width <= 4; width++) {
            for (int own = 1; own <= 4; own += 3) {
                range(new int[] {own, width}, "map 0:\"s\" \"p\" $0 of 1 by 0 #.", width);
                for (int column = 0; column <= 4; column++) {
                    String behind = " of 1 by 0 0.";
                    if (column < width) {
                        reads(with(own, width), "map 0:\"s\" \"p\" $" + column + behind, 1);
                    } else {
                        mayNotAt(with(own, width), "map 0:\"s\" \"p\" $^" + column + behind);
                    }
                }
            }
        }
    }

    private static void whenAnObjectsColumnIsLookedAt() {
        sentence("(the first of these is looked at when that source is known");
        int[] columns = {2, 4, 3};
        // Before it is known, a fault on the way to it is told.
        wrongAt(with(columns), "map 0:\"s\" \"p\" $3 of^");
        wrongAt(with(columns), "map 0:\"s\" \"p\" $3 of ^x");
        wrongAt(with(columns), "map 0:\"s\" \"p\" $3 of ^by");
        mayNotAt(with(columns), "map 0:\"s\" \"p\" $3 of ^3");
        mayNotAt(with(columns), "map 0:\"s\" \"p\" $3 of ^0");
        // When it is, the column is told before all that comes behind.
        mayNotAt(with(columns), "map 0:\"s\" \"p\" $^3 of 2");
        mayNotAt(with(columns), "map 0:\"s\" \"p\" $^3 of 2 x");
        mayNotAt(with(columns), "map 0:\"s\" \"p\" $^3 of 2 by 9");
        wrongAt(with(columns), "map 0:\"s\" \"p\" $3 of 1 ^x");
        wrongAt(with(columns), "map 0:\"s\" \"p\" $2 of 2 ^x");
        mayNotAt(with(columns), "map 0:\"s\" \"p\" $2 of 2 by ^9");
        sentence("above 3 it is none of any");
        mayNotAt(with(columns), "map 0:\"s\" \"p\" $^4");
        mayNotAt(with(columns), "map 0:\"s\" \"p\" $^4 of");
        mayNotAt(with(columns), "map 0:\"s\" \"p\" $^4 of x");
        mayNotAt(with(columns), "map 0:\"s\" \"p\" $^4 of 0");
        mayNotAt(with(columns), "map 0:\"s\" \"p\" $^4 of 1 by 0 0.");
        mayNotAt(with(columns), "map 0:\"s\" \"p\" $^9999 of 3");
        sentence("without of the column is looked at as soon as no of can come)");
        String[] behind = {"", " ", ".", " x", " o", " off", " ofof", " Of", " if x", " in 99", " by", " 0", " ;", " \""};
        for (String next : behind) {
            mayNotAt(with(columns), "map 0:\"s\" \"p\" $^2" + next);
            mayNotAt(with(columns), "map 0:\"s\" \"p\" $^0003" + next);
        }
        wrongAt(with(columns), "map 0:\"s\" \"p\" $1 ^x");
        wrongAt(with(columns), "map 0:\"s\" \"p\" $1 ^o");
        wrongAt(with(columns), "map 0:\"s\" \"p\" $1^");
    }

    private static void graphs() {
        sentence("A GRAPH is 0 .. 9");
        range(new int[] {1}, "map 0:\"s\" \"p\" \"o\" in #.", 10);
        range(new int[] {1}, "map 0:\"s\" \"p\" $0 if $0 = 1 in #.", 10);
    }

    private static void secondNameIsATemplate() {
        sentence("The second name is a template");
        good("map 0:_0 \"p\" _0.");
        good("map 0:_0 \"\" _0.");
        wrongAt("map 0:_0 ^_0 _0.");
        wrongAt("map 0:\"s\" ^_0 _0.");
        wrongAt("map 0:\"s\" ^$0 _0.");
    }

    private static void sixMappings() {
        sentence("At most 6 mappings");
        String mapping = "map 0:_0\"p\"$0.";
        for (int n = 0; n <= 6; n++) {
            reads(with(2, 4), mapping.repeat(n), n);
            reads(with(2, 4), mapping.repeat(n) + " \n", n);
        }
        String six = mapping.repeat(6);
        mayNotAt(six + "^" + mapping);
        mayNotAt(six + " \n^" + mapping);
        mayNotAt(six + "^" + mapping + mapping);
        mayNotAt(six + "^map");
        mayNotAt(six + "^map x");
        wrongAt(six + "^mapx");
        wrongAt(six + "^.");
        wrongAt(six + "^;");
        wrongAt(mapping.repeat(5) + "map^");
    }

    private static void thirtyPieces() {
        sentence("30 pieces in a template");
        String[] pieces = {"a", " ", "\\\"", "\\\\", "\\{", "\\}", "{0}", "{1}"};
        String[] befores = {"map 0:\"", "map 0:\"s\" \"", "map 0:\"s\" \"p\" \""};
        String[] behinds = {"\" \"p\" \"o\".", "\" \"o\".", "\"."};
        for (int name = 0; name < 3; name++) {
            for (String piece : pieces) {
                good(befores[name] + piece.repeat(29) + behinds[name]);
                good(befores[name] + piece.repeat(30) + behinds[name]);
                good(befores[name] + piece + "a".repeat(29) + behinds[name]);
                mayNotAt(befores[name] + piece.repeat(30) + "^" + piece + behinds[name]);
                mayNotAt(befores[name] + piece.repeat(30) + "^" + piece.repeat(2) + behinds[name]);
                mayNotAt(befores[name] + "a".repeat(30) + "^" + piece);
                // What can't begin a piece is no piece too many.
                wrongAt(befores[name] + piece.repeat(30) + "^}" + behinds[name]);
                wrongAt(befores[name] + piece.repeat(30) + "^\n" + behinds[name]);
                wrongAt(befores[name] + piece.repeat(30) + "^\u007f" + behinds[name]);
                wrongAt(befores[name] + piece.repeat(30) + "^");
            }
        }
        // Each of three templates may have them.
        String thirty = "\"" + "a".repeat(30) + "\"";
        good("map 0:" + thirty + thirty + thirty + ".");
        good("map 0:\"\"\"\"\"\".");
    }

    private static void firstFaultByPlace() {
        sentence("The first of these by its place is told; a token is read when the one before it was taken");
        mayNotAt("map ^2 0 0");
        wrongAt("map 0 ^0 : _9");
        wrongAt("map 0 ^9");
        mayNotAt("map 0:_^2 _");
        wrongAt("map 0:_0 ^_9");
        mayNotAt("map 0:\"{^2x\"");
        mayNotAt("map 0:\"{^2");
        wrongAt("map 0:\"{0^x{9}\"");
        mayNotAt("map 0:\"{^9\n\"");
        mayNotAt("map 0:\"s\" \"p\" $0 of 1 by ^2 9");
        wrongAt("map 0:\"s\" \"p\" $0 of 1 ^9");
        mayNotAt("map 0:\"s\" \"p\" $0 if $^2 x");
        wrongAt("map 0:\"s\" \"p\" $0 if $0 ^9 in 10");
        mayNotAt("map 0:\"s\" \"p\" $0 in ^10 x");
        wrongAt("map 0:\"s\" \"p\" $0. ^x map 9");
        mayNotAt("map 0:\"s\" \"p\" $0. map ^9 x");
        mayNotAt("map 0:\"" + "a".repeat(30) + "^\\x\"");
        mayNotAt("map 0:\"" + "a".repeat(30) + "^{9}\"");
        mayNotAt("map 0:\"{^9}" + "a".repeat(30) + "\"");
    }

    // Promise 6.

    private static void readOfAnEmptyText() {
        sentence("The text is read: how many mappings there are now");
        due("read of a new object", new MappingText().read(), 0);
        MappingText x = with(2, 4);
        due("read of no text", x.read(), 0);
        reads(x, " ", 0);
        reads(x, "\n", 0);
        reads(x, "map 0:_0\"p\"$0.", 1);
        reads(x, "map 0:_0\"p\"$0.map 1:_0\"p\"$0.", 2);
        reads(x, "map 1:_0\"p\"$0.", 1);
        due("read of no text", x.read(), 0);
        due("no mapping is there then", x.print(), 0);
        due("no mapping is there then", x.which(0, 0, 0), BAD);
    }

    private static void readThatFails() {
        sentence("-10 less the place where it is WRONG, -1000 less that where it MAY NOT be (mappings stay then)");
        MappingText x = with(2, 4);
        due("row", x.row(0, 3, 4, 0, 0), 0);
        String stays = "map 0 : \"a\" \"p\" $1 of 1 by 0 0 if $0 < 7 in 4 .\nmap 0 : _1 \"q\" \"o\" .\n";
        reads(x, stays, 2);
        String[] fails = {"^x", "map 1:\"b\" \"q\" _0 in 3. map 1:\"c\" \"q\" \"o\". ^x", "map 1:_0 \"q\" \"o\" if null $0 in 3^"};
        for (String text : fails) {
            wrongAt(x, text);
            due("print", printed(x), stays);
            due("triples", x.triples(), 1);
            due("its first byte", x.byteOf(0, 0, 0), '0');
        }
        String[] mayNot = {"map ^2", "map 1:\"b\" \"q\" $0. map 1:\"c\" \"q\" \"o\" in ^10.", "map 1:\"{^4}\""};
        for (String text : mayNot) {
            mayNotAt(x, text);
            due("print", printed(x), stays);
            due("which", x.which(1, 0, 0), 0);
            due("which", x.which(2, 0, 0), BAD);
        }
        x = with(2, 4);
        wrongAt(x, "^;");
        due("still none", x.print(), 0);
        sentence("-10 less the place: from 0 to 500");
        wrongAt("^;");
        wrongAt(" ^;");
        wrongAt(" ".repeat(489) + "^;");
        wrongAt(" ".repeat(490) + "^;");
        wrongAt(" ".repeat(499) + "^;");
        wrongAt(" ".repeat(497) + "map^");
        mayNotAt(" ".repeat(495) + "map ^2");
    }

    private static void readThatIsGood() {
        sentence("The text is empty then.");
        MappingText x = with(2, 4);
        reads(x, "map 0:_0\"p\"$0.", 1);
        due("type", x.type(' ', 1), 1);
        due("read", x.read(), 0);
        wrongAt(x, "map 0 ^0");
        due("type", x.type(' ', 1), 1);
        due("read", x.read(), 0);
        mayNotAt(x, "map ^9");
        due("read", x.read(), 0);
        typeText(x, " ".repeat(500));
        due("read of a full text", x.read(), 0);
        typeText(x, " ".repeat(500));
        due("type beyond 500", x.type(' ', 1), FULL);
    }

    private static void readAfterOtherReads() {
        sentence("how many mappings there are now: those of this text, and nothing of the ones before");
        String[] mappings = {"map 0 : \"s\" \"p\" \"o\" .\n", "map 1 : _3 \"p{2}q\" $1 of 0 by 3 1 if $3 < 70 in 9 .\n",
            "map 0 : \"\" \"\" \"\" in 0 .\n", "map 1 : _0 \"{0}\" _2 if null $2 .\n", "map 0 : \"{0}{1}\" \"\\\\\" $1 if $0 = 9999 in 3 .\n",
            "map 0 : \"abc\" \"p\" $3 of 1 by 0 2 .\n", "map 1 : \"s\" \"p\" $3 if $1 > 0 .\n"};
        for (String before : mappings) {
            for (String now : mappings) {
                MappingText x = with(2, 4);
                reads(x, before + before, 2);
                wrongAt(x, before + "^;");
                reads(x, before, 1);
                reads(x, now, 1);
                due("print", printed(x), now);
                wrongAt(x, before + before + "^;");
                reads(x, now + now, 2);
                due("print", printed(x), now + now);
            }
        }
    }

    // Promises 13 and 14.

    private static void printOfNothing() {
        sentence("The mappings are printed");
        due("print of a new object", new MappingText().print(), 0);
        MappingText x = with(2, 4);
        typeText(x, "map 0:_0\"p\"$0.");
        due("print of what was not read", x.print(), 0);
        due("read", x.read(), 1);
        due("print", x.print(), "map 0 : _0 \"p\" $0 .\n".length());
        due("print again", printed(x), "map 0 : _0 \"p\" $0 .\n");
        due("read", x.read(), 0);
        due("print of none", x.print(), 0);
    }

    private static void printedNumbers() {
        sentence("tokens as they were read, numbers without 0s before them");
        String[] told = {"0", "00", "0000", "1", "01", "0009", "9", "10", "010", "0099", "100", "0100", "999", "0999", "1000", "1010", "9999"};
        for (String number : told) {
            String plain = "" + Integer.parseInt(number);
            prints("map 0:_0 \"p\" $0 if $0 = " + number + ".", "map 0 : _0 \"p\" $0 if $0 = " + plain + " .\n");
        }
        prints("map 0001 : _ 0003 \"p{0003}{00}\" $ 0001 of 0000 by 0003 0001 if $ 0003 > 0070 in 0009 .",
                "map 1 : _3 \"p{3}{0}\" $1 of 0 by 3 1 if $3 > 70 in 9 .\n");
        prints("map 0:\"s\" \"p\" \"o\" if null $01 in 00.", "map 0 : \"s\" \"p\" \"o\" if null $1 in 0 .\n");
        prints("map 0:\"0007\" \"00\" \"\".", "map 0 : \"0007\" \"00\" \"\" .\n");
    }

    private static void printedEscapes() {
        sentence("escapes where they are needed alone");
        StringBuilder all = new StringBuilder();
        for (int b = 32; b <= 126; b++) {
            String piece = b == '"' || b == '\\' || b == '{' || b == '}' ? "\\" + (char) b : "" + (char) b;
            prints("map 0:\"" + piece + "\"\"" + piece + piece + "\"\"a" + piece + "\".",
                    "map 0 : \"" + piece + "\" \"" + piece + piece + "\" \"a" + piece + "\" .\n");
            all.append(piece);
        }
        due("pieces tried", all.length(), 95 + 4);
        prints("map 0:\"\\{0\\}{0}\" \"p\" \"o\".", "map 0 : \"\\{0\\}{0}\" \"p\" \"o\" .\n");
    }

    private static void printedBlanks() {
        sentence("one blank between two tokens (none behind $ and _), a byte 10 behind each . alone: how many bytes");
        String want = "map 1 : _3 \"p\" $1 of 0 by 3 1 if $3 < 7 in 9 .\n";
        prints(String.join("", fullMapping()).replace("31if", "3 1if"), want);
        prints("\n" + String.join(" \n ", fullMapping()) + " \n", want);
        String wantNull = "map 1 : \"s\" \"p\" _3 if null $3 .\n";
        prints("map1:\"s\"\"p\"_3if null$3.", wantNull);
        prints(String.join("\n\n", nullMapping()), wantNull);
        prints("map1:\"s\"\"p\"_3if null$3.".repeat(6), wantNull.repeat(6));
        prints(want + want, want + want);
        prints("map 0:\" . \" \".\" \"$ _ \".", "map 0 : \" . \" \".\" \"$ _ \" .\n");
    }

    private static void printOfTheMost() {
        sentence("print: .. how many bytes, of the longest text that grows the most");
        // 500 bytes with no blank but one, six mappings with every part: each grows by 17 bytes.
        String names = "\"" + "a".repeat(30) + "\"\"" + "p".repeat(24);
        String parts = "\"$0of1by0 0if$0<0in0.";
        String text = ("map0:" + names + parts).repeat(5) + "map0:" + names + "pp" + parts;
        due("the text's length", text.length(), MOST_BYTES);
        MappingText x = with(1, 1);
        reads(x, text, 6);
        String printedParts = "\" $0 of 1 by 0 0 if $0 < 0 in 0 .\n";
        int due = 6 * ("map 0 : " + names + " " + printedParts).length() + 2;
        due("what it grew to", due, MOST_BYTES + 6 * 17);
        due("print", x.print(), due);
        due("the last byte but two", x.at(due - 3), ' ');
        due("the last byte but one", x.at(due - 2), '.');
        due("the last byte", x.at(due - 1), 10);
        due("the byte behind", x.at(due), BAD);
    }

    private static void atItsEnds() {
        sentence("Byte i of what was printed last. BAD when there is none such");
        due("at(0) of a new object", new MappingText().at(0), BAD);
        MappingText x = with(2, 4);
        reads(x, "map 0:_0\"p\"$0.", 1);
        due("at(0) before a print", x.at(0), BAD);
        String text = "map 0 : _0 \"p\" $0 .\n";
        due("print", x.print(), text.length());
        for (int i = -3; i < text.length() + 700; i++) {
            // An object is used for 512 calls at most.
            if (i < text.length() + 3 || i % 50 == 0) {
                due("at(" + i + ")", x.at(i), i >= 0 && i < text.length() ? text.charAt(i) : BAD);
            }
        }
        for (int i : FAR) {
            due("at(" + i + ")", x.at(i), BAD);
        }
    }

    private static void atOfWhatWasPrintedLast() {
        sentence("of what was printed last");
        MappingText x = with(2, 4);
        reads(x, "map 0:_0\"p\"$0 if null $1.", 1);
        String text = "map 0 : _0 \"p\" $0 if null $1 .\n";
        due("print", x.print(), text.length());
        reads(x, "map 1:_0\"q\"$0.", 1);
        due("at(4) after another read", x.at(4), '0');
        wrongAt(x, "^x");
        due("at(4) after a read that fails", x.at(4), '0');
        due("its last byte", x.at(text.length() - 1), 10);
        due("print", x.print(), "map 1 : _0 \"q\" $0 .\n".length());
        due("at(4) after another print", x.at(4), '1');
        due("the last byte of that", x.at(19), 10);
        due("behind the last byte of that", x.at(20), BAD);
        due("read", x.read(), 0);
        due("at(19) still", x.at(19), 10);
        due("print of none", x.print(), 0);
        due("at(0) then", x.at(0), BAD);
    }
}
