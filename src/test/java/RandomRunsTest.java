import java.util.ArrayList;
import java.util.Arrays;
import java.util.HashSet;
import java.util.List;
import java.util.Map;
import java.util.Random;
import java.util.Set;
import java.util.TreeMap;
import java.util.regex.Matcher;
import java.util.regex.Pattern;

/** Long runs of drawn calls (always the same ones) against a second, plain way to say what the document asks. */
public final class RandomRunsTest {
    private static final int BAD = -1;
    private static final int FULL = -2;
    private static final int NO = -3;
    private static final int RUNS = 1500;
    private static final int CALLS = 512;

    /** What the document says, by texts, lists and sorted maps. */
    private static final class Model {
        final List<Integer> columns = new ArrayList<>();
        final List<List<int[]>> rows = new ArrayList<>();
        final Set<String> gone = new HashSet<>();
        StringBuilder text = new StringBuilder();
        List<Rule> rules = new ArrayList<>();
        String printed = "";

        // What follows from the state: triples by their keys, with the ways that give them.
        final TreeMap<String, List<int[]>> given = new TreeMap<>();
        final List<int[]> bads = new ArrayList<>();

        int source(int n) {
            if (n < 1 || n > 4) {
                return BAD;
            }
            if (columns.size() == 4) {
                return FULL;
            }
            columns.add(n);
            rows.add(new ArrayList<>());
            return columns.size() - 1;
        }

        int row(int source, int... cells) {
            if (source < 0 || source >= columns.size()) {
                return BAD;
            }
            int[] kept = Arrays.copyOf(cells, columns.get(source));
            if (Arrays.stream(kept).anyMatch(cell -> cell > 9999)) {
                return BAD;
            }
            if (rows.get(source).size() == 16) {
                return FULL;
            }
            rows.get(source).add(kept);
            give();
            return rows.get(source).size() - 1;
        }

        boolean hasRow(int source, int row) {
            return source >= 0 && source < rows.size() && row >= 0 && row < rows.get(source).size();
        }

        int change(int source, int row, boolean there) {
            if (!hasRow(source, row)) {
                return BAD;
            }
            Set<String> before = new HashSet<>(given.keySet());
            String key = source + "/" + row;
            if (there) {
                gone.remove(key);
            } else {
                gone.add(key);
            }
            give();
            Set<String> all = new HashSet<>(before);
            all.addAll(given.keySet());
            int changed = 0;
            for (String one : all) {
                if (before.contains(one) != given.containsKey(one)) {
                    changed++;
                }
            }
            return changed;
        }

        int type(long bytes, int n) {
            if (n < 1 || n > 8) {
                return BAD;
            }
            if (text.length() + n > 500) {
                return FULL;
            }
            for (int i = 8 - n; i < 8; i++) {
                text.append((char) (bytes << 8 * i >>> 56));
            }
            return text.length();
        }

        int read() {
            String whole = text.toString();
            text = new StringBuilder();
            try {
                rules = new Parser(whole, columns).rules();
            } catch (Fault fault) {
                return fault.told;
            }
            give();
            return rules.size();
        }

        void give() {
            given.clear();
            bads.clear();
            for (int m = 0; m < rules.size(); m++) {
                for (int r = 0; r < rows.get(rules.get(m).source).size(); r++) {
                    if (!gone.contains(rules.get(m).source + "/" + r)) {
                        giveRow(m, rules.get(m), r, rows.get(rules.get(m).source).get(r));
                    }
                }
            }
        }

        private void giveRow(int m, Rule rule, int r, int[] cells) {
            if (!rule.holds(cells)) {
                return;
            }
            List<String> names = new ArrayList<>();
            int worst = -1;
            for (int i = 0; i < rule.names.size(); i++) {
                String name = name(rule, rule.names.get(i), cells);
                if (name == null) {
                    return;
                }
                if (worst < 0 && (name.length() < 2 || name.length() > 21)) {
                    worst = i;
                }
                names.add(name);
            }
            if (worst >= 0) {
                bads.add(new int[] {m, r, worst});
                return;
            }
            String key = names.get(0) + "\0" + names.get(1) + "\0";
            if (names.size() == 3) {
                add(key + names.get(2) + "\0" + rule.graph(), m, r, 0);
            } else if (rule.joined < 0) {
                if (cells[rule.column] >= 0) {
                    add(key + "2" + cells[rule.column] + "\0" + rule.graph(), m, r, 0);
                }
            } else {
                for (int o = 0; o < rows.get(rule.joined).size(); o++) {
                    int[] other = rows.get(rule.joined).get(o);
                    if (!gone.contains(rule.joined + "/" + o) && cells[rule.here] >= 0
                            && cells[rule.here] == other[rule.there] && other[rule.column] >= 0) {
                        add(key + "2" + other[rule.column] + "\0" + rule.graph(), m, r, o);
                    }
                }
            }
        }

        private void add(String key, int m, int r, int o) {
            given.computeIfAbsent(key, unused -> new ArrayList<>()).add(new int[] {m, r, o});
        }

        /** The digit of its kind and its bytes, null where a NULL is wanted. */
        private static String name(Rule rule, List<String> pieces, int[] cells) {
            StringBuilder name = new StringBuilder(pieces.get(0));
            if (pieces.get(0).equals("1")) {
                name.append(rule.source).append('.');
            }
            for (String piece : pieces.subList(1, pieces.size())) {
                if (piece.length() == 1) {
                    name.append(piece);
                } else {
                    int cell = cells[Integer.parseInt(piece.substring(1))];
                    if (cell < 0) {
                        return null;
                    }
                    name.append(cell);
                }
            }
            return name.toString();
        }

        String[] key(int i) {
            return i < 0 || i >= given.size() ? null : new ArrayList<>(given.keySet()).get(i).split("\0", -1);
        }

        int triple(int i, int what) {
            if (what < 0 || what > 9) {
                return BAD;
            }
            String[] key = key(i);
            if (key == null) {
                return NO;
            }
            if (what < 3) {
                return key[what].charAt(0) - '0';
            }
            if (what < 6) {
                return key[what - 3].length() - 1;
            }
            List<int[]> ways = new ArrayList<>(given.values()).get(i);
            return what == 6 ? Integer.parseInt(key[3]) : what == 7 ? ways.size() : ways.get(0)[what - 8];
        }

        int byteOf(int i, int term, int k) {
            String[] key = key(i);
            if (key == null || term < 0 || term > 2 || k < 0 || k > key[term].length() - 2) {
                return BAD;
            }
            return key[term].charAt(k + 1);
        }

        int which(int m, int r, int o) {
            if (m < 0 || m >= rules.size() || !hasRow(rules.get(m).source, r)) {
                return BAD;
            }
            boolean joins = rules.get(m).joined >= 0;
            if (joins && !hasRow(rules.get(m).joined, o)) {
                return BAD;
            }
            int i = 0;
            for (Map.Entry<String, List<int[]>> one : given.entrySet()) {
                for (int[] way : one.getValue()) {
                    if (way[0] == m && way[1] == r && (!joins || way[2] == o)) {
                        return i;
                    }
                }
                i++;
            }
            return NO;
        }

        int bad(int i, int what) {
            if (what < 0 || what > 2) {
                return BAD;
            }
            return i < 0 || i >= bads.size() ? NO : bads.get(i)[what];
        }

        int print() {
            StringBuilder all = new StringBuilder();
            for (Rule rule : rules) {
                all.append(rule.printed);
            }
            printed = all.toString();
            return printed.length();
        }

        int at(int i) {
            return i < 0 || i >= printed.length() ? BAD : printed.charAt(i);
        }
    }

    /** A mapping of the model. A name is a list: its kind's digit, then a text of one byte, or # and a column. */
    private static final class Rule {
        int source;
        final List<List<String>> names = new ArrayList<>();
        int column = -1;
        int joined = -1;
        int here;
        int there;
        String test = "";
        int tested;
        int number;
        String graph = "";
        String printed = "";

        int graph() {
            return graph.isEmpty() ? 0 : Integer.parseInt(graph);
        }

        boolean holds(int[] cells) {
            switch (test) {
                case "":
                    return true;
                case "null":
                    return cells[tested] < 0;
                case "=":
                    return cells[tested] >= 0 && cells[tested] == number;
                case "<":
                    return cells[tested] >= 0 && cells[tested] < number;
                default:
                    return cells[tested] >= 0 && cells[tested] > number;
            }
        }
    }

    private static final class Fault extends RuntimeException {
        private static final long serialVersionUID = 1L;
        final int told;

        Fault(int told) {
            super(null, null, false, false);
            this.told = told;
        }
    }

    /** Takes the tokens by patterns, and keeps what was taken as it is to be printed. */
    private static final class Parser {
        private static final Pattern BETWEEN = Pattern.compile("[ \\n]*");
        private static final Pattern TOKEN = Pattern.compile("[a-z]+|[0-9]{1,4}|[\\s\\S]");
        private static final Pattern PIECE = Pattern.compile("[ -~&&[^\"\\\\{}]]|\\\\[\"\\\\{}]|\\{[0-9]{1,4}\\}");

        final String text;
        final List<Integer> columns;
        int place = 0;
        int start = 0;
        String token = "";
        StringBuilder printed = new StringBuilder();

        Parser(String text, List<Integer> columns) {
            this.text = text;
            this.columns = columns;
        }

        private String take(Pattern pattern) {
            Matcher matcher = pattern.matcher(text).region(place, text.length());
            if (!matcher.lookingAt()) {
                return "";
            }
            place = matcher.end();
            return matcher.group();
        }

        private void next() {
            take(BETWEEN);
            start = place;
            token = take(TOKEN);
        }

        private void taken() {
            boolean digits = token.matches("[0-9]+");
            printed.append(digits ? "" + Integer.parseInt(token) : token);
            printed.append(token.equals(".") ? "\n" : token.equals("$") || token.equals("_") ? "" : " ");
            next();
        }

        private void expect(String wanted) {
            if (!token.equals(wanted)) {
                throw new Fault(-10 - start);
            }
            taken();
        }

        private int number(int limit) {
            if (!token.matches("[0-9]+")) {
                throw new Fault(-10 - start);
            }
            int number = Integer.parseInt(token);
            if (number >= limit) {
                throw new Fault(-1000 - start);
            }
            taken();
            return number;
        }

        List<Rule> rules() {
            List<Rule> rules = new ArrayList<>();
            next();
            while (!token.isEmpty()) {
                if (token.equals("map") && rules.size() == 6) {
                    throw new Fault(-1000 - start);
                }
                printed = new StringBuilder();
                Rule rule = new Rule();
                rule(rule);
                rule.printed = printed.toString();
                rules.add(rule);
            }
            return rules;
        }

        private void rule(Rule rule) {
            expect("map");
            rule.source = number(columns.size());
            int width = columns.get(rule.source);
            expect(":");
            rule.names.add(name(width));
            if (token.equals("_")) {
                throw new Fault(-10 - start);
            }
            rule.names.add(name(width));
            if (token.equals("$")) {
                value(rule, width);
            } else {
                rule.names.add(name(width));
            }
            if (token.equals("if")) {
                condition(rule, width);
            }
            if (token.equals("in")) {
                taken();
                rule.graph = "" + number(10);
            }
            expect(".");
        }

        private List<String> name(int width) {
            List<String> name = new ArrayList<>();
            if (token.equals("_")) {
                taken();
                name.add("1");
                name.add("#" + number(width));
                return name;
            }
            if (!token.equals("\"")) {
                throw new Fault(-10 - start);
            }
            name.add("0");
            printed.append("\"");
            while (place < text.length() && text.charAt(place) != '"') {
                int from = place;
                String piece = take(PIECE);
                if (name.size() == 31 && "}\n".indexOf(text.charAt(from)) < 0 && text.charAt(from) >= ' '
                        && text.charAt(from) <= '~') {
                    throw new Fault(-1000 - from);
                }
                name.add(piece(piece, from, width));
            }
            if (place >= text.length()) {
                throw new Fault(-10 - text.length());
            }
            place++;
            printed.append("\" ");
            next();
            return name;
        }

        private String piece(String piece, int from, int width) {
            if (piece.isEmpty()) {
                throw brokenPiece(from, width);
            }
            if (!piece.startsWith("{")) {
                printed.append(piece);
                return piece.substring(piece.length() - 1);
            }
            int column = Integer.parseInt(piece.substring(1, piece.length() - 1));
            if (column >= width) {
                throw new Fault(-1000 - from - 1);
            }
            printed.append('{').append(column).append('}');
            return "#" + column;
        }

        private Fault brokenPiece(int from, int width) {
            char first = text.charAt(from);
            if (first == '\\') {
                return new Fault(-10 - from - 1);
            }
            if (first != '{') {
                return new Fault(-10 - from);
            }
            Matcher digits = Pattern.compile("[0-9]{0,4}").matcher(text).region(from + 1, text.length());
            digits.lookingAt();
            boolean far = !digits.group().isEmpty() && Integer.parseInt(digits.group()) >= width;
            return new Fault(far ? -1000 - from - 1 : -10 - digits.end());
        }

        private void value(Rule rule, int width) {
            taken();
            int at = start;
            rule.column = number(4);
            if (!token.equals("of")) {
                if (rule.column >= width) {
                    throw new Fault(-1000 - at);
                }
                return;
            }
            taken();
            int sourceAt = start;
            rule.joined = number(columns.size());
            if (rule.joined == rule.source) {
                throw new Fault(-1000 - sourceAt);
            }
            if (rule.column >= columns.get(rule.joined)) {
                throw new Fault(-1000 - at);
            }
            expect("by");
            rule.here = number(width);
            rule.there = number(columns.get(rule.joined));
        }

        private void condition(Rule rule, int width) {
            taken();
            if (token.equals("null")) {
                taken();
                expect("$");
                rule.test = "null";
                rule.tested = number(width);
                return;
            }
            expect("$");
            rule.tested = number(width);
            if (!token.equals("=") && !token.equals("<") && !token.equals(">")) {
                throw new Fault(-10 - start);
            }
            rule.test = token;
            taken();
            rule.number = number(10000);
        }
    }

    /** Draws texts that are mostly good ones, or nearly. */
    private static final class Draw {
        final Random random;
        final Model model;
        final int care;

        Draw(Random random, Model model) {
            this.random = random;
            this.model = model;
            this.care = random.nextInt(4) == 0 ? 8 : 60;
        }

        boolean slip() {
            return random.nextInt(care) == 0;
        }

        String blanks(String least) {
            int draw = random.nextInt(12);
            return draw == 0 ? "\n" : draw == 1 ? "  " : draw < 6 ? " " : least;
        }

        String number(int below) {
            int n = slip() ? random.nextInt(6) : random.nextInt(Math.max(1, below));
            int zeros = random.nextInt(10) == 0 ? random.nextInt(5) : 0;
            return "0".repeat(zeros) + n;
        }

        int width(int source) {
            return source < model.columns.size() ? model.columns.get(source) : 1;
        }

        String template(int width) {
            StringBuilder told = new StringBuilder("\"");
            int pieces = random.nextInt(40) == 0 ? 29 + random.nextInt(3) : random.nextInt(20) == 0 ? 18 + random.nextInt(4)
                    : random.nextInt(10) == 0 ? 0 : 1 + random.nextInt(4);
            for (int i = 0; i < pieces; i++) {
                int draw = random.nextInt(12);
                if (draw < 4) {
                    told.append('{').append(number(width)).append('}');
                } else if (draw == 4) {
                    told.append('\\').append("\"\\{}".charAt(random.nextInt(4)));
                } else {
                    told.append("ab~ ".charAt(random.nextInt(4)));
                }
            }
            return told.append('"').toString();
        }

        String name(int width) {
            return random.nextInt(3) == 0 ? "_" + blanks("") + number(width) : template(width);
        }

        String mapping() {
            int source = random.nextInt(Math.max(1, model.columns.size() + (slip() ? 1 : 0)));
            int width = width(source);
            StringBuilder told = new StringBuilder(blanks("")).append("map").append(blanks(" ")).append(source)
                    .append(blanks("")).append(':').append(blanks("")).append(name(width)).append(blanks(""))
                    .append(template(width)).append(blanks(""));
            int object = random.nextInt(3);
            if (object == 0) {
                told.append(name(width));
            } else if (object == 1) {
                told.append('$').append(number(width)).append(blanks(""));
            } else {
                int other = random.nextInt(Math.max(1, model.columns.size()));
                other = other == source && !slip() ? (source + 1) % Math.max(1, model.columns.size()) : other;
                told.append('$').append(number(width(other))).append(blanks("")).append("of").append(blanks(""))
                        .append(other).append(blanks("")).append("by").append(blanks("")).append(number(width))
                        .append(blanks(" ")).append(number(width(other))).append(blanks(""));
            }
            if (random.nextInt(3) == 0) {
                told.append(" if").append(blanks(" "));
                if (random.nextInt(3) == 0) {
                    told.append("null").append(blanks("")).append('$').append(number(width));
                } else {
                    told.append('$').append(number(width)).append(blanks("")).append("=<>".charAt(random.nextInt(3)))
                            .append(blanks("")).append(random.nextInt(5));
                }
                told.append(blanks(""));
            }
            if (random.nextInt(4) == 0) {
                told.append(" in").append(blanks(" ")).append(random.nextInt(slip() ? 12 : 3));
            }
            return told.append(blanks("")).append('.').toString();
        }

        String text() {
            StringBuilder told = new StringBuilder();
            int mappings = random.nextInt(20) == 0 ? random.nextInt(2) * 7 : 1 + random.nextInt(5);
            for (int i = 0; i < mappings; i++) {
                told.append(mapping());
            }
            told.append(blanks(""));
            if (slip() && told.length() > 0) {
                int place = random.nextInt(told.length());
                char other = "map \n\"\\{}$_.:;0129\u0080\u007f\u0000".charAt(random.nextInt(19));
                switch (random.nextInt(4)) {
                    case 0:
                        told.setLength(place);
                        break;
                    case 1:
                        told.deleteCharAt(place);
                        break;
                    case 2:
                        told.setCharAt(place, other);
                        break;
                    default:
                        told.insert(place, other);
                        break;
                }
            }
            return told.substring(0, Math.min(500, told.length()));
        }

        int cell() {
            int draw = random.nextInt(40);
            return draw == 0 ? 10000 : draw == 1 ? 9999 : draw < 5 ? -1 - random.nextInt(3)
                    : draw < 10 ? random.nextInt(10000) : random.nextInt(4);
        }

        /** Mostly one of those that there are, at times one before or behind. */
        int index(int there) {
            return random.nextInt(20) == 0 ? random.nextInt(9) - 4 + there : random.nextInt(there + 1) - (slip() ? 1 : 0);
        }
    }

    private static int wrong = 0;
    private static final StringBuilder LOG = new StringBuilder();
    private static final int[] SEEN = new int[9];

    private static void due(String call, int got, int want) {
        LOG.append(call).append(" -> ").append(want).append('\n');
        if (got != want) {
            wrong++;
            if (wrong == 1) {
                System.out.println("the run so far, with the answers due:\n" + LOG);
            }
            System.out.println(call + " answered " + got + ", due is " + want);
        }
    }

    private static int calls;

    private static void typed(MappingText x, Model y, String text) {
        for (int from = 0; from < text.length(); from += 8) {
            int n = Math.min(8, text.length() - from);
            long bytes = 0;
            for (int i = 0; i < n; i++) {
                bytes = bytes << 8 | text.charAt(from + i);
            }
            due("type(" + bytes + "L, " + n + ")", x.type(bytes, n), y.type(bytes, n));
            calls++;
        }
    }

    private static void run(int seed) {
        LOG.setLength(0);
        Random random = new Random(seed);
        MappingText x = new MappingText();
        Model y = new Model();
        Draw draw = new Draw(random, y);
        calls = 0;
        int sources = random.nextInt(12) == 0 ? random.nextInt(2) : 2 + random.nextInt(3);
        for (int i = 0; i < sources; i++) {
            int columns = 1 + random.nextInt(4);
            due("source(" + columns + ")", x.source(columns), y.source(columns));
            calls++;
            int rows = random.nextInt(12);
            for (int row = 0; row < rows; row++) {
                rowCall(x, y, i, draw);
                calls++;
            }
        }
        while (calls < CALLS - 80 && wrong == 0) {
            oneCall(x, y, draw, random);
            calls++;
        }
    }

    private static void oneCall(MappingText x, Model y, Draw draw, Random random) {
        int source = draw.index(y.columns.size());
        int rows = source >= 0 && source < y.rows.size() ? y.rows.get(source).size() : 0;
        int i = draw.index(y.given.size());
        switch (random.nextInt(16)) {
            case 0:
                if (random.nextInt(10) == 0) {
                    int columns = random.nextInt(6);
                    due("source(" + columns + ")", x.source(columns), y.source(columns));
                }
                break;
            case 1:
            case 2:
                rowCall(x, y, source, draw);
                break;
            case 3:
            case 4:
                int row = draw.index(rows);
                boolean there = random.nextInt(3) > 0;
                int changed = y.change(source, row, there);
                SEEN[0] += changed > 0 ? 1 : 0;
                due("change(" + source + ", " + row + ", " + there + ")", x.change(source, row, there), changed);
                break;
            case 5:
                if (random.nextInt(12) == 0) {
                    long bytes = random.nextLong();
                    int n = random.nextInt(11) - 1;
                    due("type(" + bytes + "L, " + n + ")", x.type(bytes, n), y.type(bytes, n));
                }
                break;
            case 6:
                if (!y.rules.isEmpty() && random.nextInt(3) > 0) {
                    break;
                }
                typed(x, y, draw.text());
                int answer = y.read();
                SEEN[answer > 0 ? 1 : answer == 0 ? 2 : answer > -1000 ? 3 : 4]++;
                due("read()", x.read(), answer);
                break;
            case 7:
                due("triples()", x.triples(), y.given.size());
                break;
            case 8:
            case 9:
                int what = random.nextInt(12) - 1;
                int told = y.triple(i, what);
                SEEN[5] += what == 7 && told > 1 ? 1 : 0;
                due("triple(" + i + ", " + what + ")", x.triple(i, what), told);
                break;
            case 10:
            case 11:
                int term = random.nextInt(20) == 0 ? random.nextInt(5) - 1 : random.nextInt(3);
                int k = draw.index(Math.max(0, y.triple(i, 3 + Math.max(0, Math.min(2, term)))));
                due("byteOf(" + i + ", " + term + ", " + k + ")", x.byteOf(i, term, k), y.byteOf(i, term, k));
                break;
            case 12:
                whichCall(x, y, draw);
                break;
            case 13:
                SEEN[6] += y.bads.isEmpty() ? 0 : 1;
                due("bads()", x.bads(), y.bads.size());
                break;
            case 14:
                int pair = draw.index(y.bads.size());
                int which = random.nextInt(5) - 1;
                due("bad(" + pair + ", " + which + ")", x.bad(pair, which), y.bad(pair, which));
                break;
            default:
                if (random.nextInt(3) == 0) {
                    due("print()", x.print(), y.print());
                }
                int at = draw.index(y.printed.length());
                due("at(" + at + ")", x.at(at), y.at(at));
                break;
        }
    }

    private static void rowCall(MappingText x, Model y, int source, Draw draw) {
        int[] c = {draw.cell(), draw.cell(), draw.cell(), draw.cell()};
        due("row(" + source + ", " + Arrays.toString(c) + ")", x.row(source, c[0], c[1], c[2], c[3]), y.row(source, c));
    }

    private static void whichCall(MappingText x, Model y, Draw draw) {
        int m = draw.index(y.rules.size());
        Rule rule = m >= 0 && m < y.rules.size() ? y.rules.get(m) : null;
        int row = draw.index(rule == null ? 2 : y.rows.get(rule.source).size());
        int other = draw.index(rule == null || rule.joined < 0 ? 2 : y.rows.get(rule.joined).size());
        int told = y.which(m, row, other);
        SEEN[7] += told >= 0 ? 1 : 0;
        SEEN[8] += told >= 0 && rule != null && rule.joined >= 0 ? 1 : 0;
        due("which(" + m + ", " + row + ", " + other + ")", x.which(m, row, other), told);
    }

    public static void main(String[] args) {
        for (int seed = 1; seed <= RUNS && wrong == 0; seed++) {
            run(seed);
        }
        System.out.println("changes that told, reads good, empty, WRONG, MAY NOT, ways above 1, bads, which, joined: "
                + Arrays.toString(SEEN));
        for (int seen : SEEN) {
            if (seen < RUNS / 20 && wrong == 0) {
                wrong++;
                System.out.println("the runs that were drawn show too little");
            }
        }
        System.out.println(wrong == 0 ? "all answers are as due" : wrong + " answers are not as due");
        if (wrong != 0) {
            System.exit(1);
        }
    }
}
