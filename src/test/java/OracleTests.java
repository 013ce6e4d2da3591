import java.util.ArrayDeque;
import java.util.ArrayList;
import java.util.Arrays;
import java.util.Deque;
import java.util.HashMap;
import java.util.List;
import java.util.Map;

/**
 * Long runs of drawn calls, each answered by the program and by a second one, written from the
 * document in another way (trees, maps, no short cuts), which must always say the same.
 */
public final class OracleTests {
    static final int BAD = -1, NO = -2, FULL = -3, NONE = -4;
    static final String ORDER = "oiwabcm+&?0123";

    private static int passed = 0;
    private static int failed = 0;

    /** The letters as often as they are drawn: too many calls, and nothing comes of anything. */
    static final String LIVELY = "oooiiiwaaaaaabbbbbbccccccmmmm+++++&&????????????0123";

    /** A generator of draws with a seed, so that each run of the tests is the same. */
    static final class Draws {
        private long state;

        Draws(long seed) {
            state = seed * 0x9E3779B97F4A7C15L + 12345;
        }

        int below(int bound) {
            state = state * 6364136223846793005L + 1442695040888963407L;
            return (int) ((state >>> 33) % bound);
        }

        boolean oneIn(int many) {
            return below(many) == 0;
        }
    }

    record Node(char letter, List<Node> parts) { }

    record Act(int f, int place, int before) { }

    static final class State {
        String arguments = "";
        final List<StringBuilder> bodies = new ArrayList<>();
        final List<Integer> kinds = new ArrayList<>();

        State copy() {
            State other = new State();
            other.arguments = arguments;
            for (int f = 0; f < bodies.size(); f++) {
                other.bodies.add(new StringBuilder(bodies.get(f)));
                other.kinds.add(kinds.get(f));
            }
            return other;
        }

        int functions() {
            return bodies.size();
        }

        int argumentsOf(int f) {
            return arguments.charAt(f) - '0';
        }
    }

    static int partsOf(String arguments, char letter) {
        if (letter >= '0' && letter <= '3') {
            return arguments.charAt(letter - '0') - '0';
        }
        return letter == 'm' ? 1 : letter == '+' || letter == '&' ? 2 : letter == '?' ? 3 : 0;
    }

    static boolean mayStand(String arguments, int f, char letter) {
        if (ORDER.indexOf(letter) < 0) {
            return false;
        }
        if (letter >= 'a' && letter <= 'c') {
            return letter - 'a' < arguments.charAt(f) - '0';
        }
        return letter < '0' || letter > '3' || letter - '0' < arguments.length();
    }

    static boolean otherwise(State s, int f, int place, char letter) {
        return mayStand(s.arguments, f, letter)
            && partsOf(s.arguments, letter) == partsOf(s.arguments, s.bodies.get(f).charAt(place));
    }

    /** What letters come to in one of the three ways of knowing. */
    enum Way {
        VALUES(4, 4), ROUGHLY(0, 1), FINELY(0, 3);

        final int never;
        final int most;

        Way(int never, int most) {
            this.never = never;
            this.most = most;
        }

        int base() {
            return Math.max(never, most) + 1;
        }

        int less(int x) {
            switch (this) {
                case VALUES: return x == 4 ? 4 : x == 0 ? 0 : x - 1;
                case ROUGHLY: return x;
                default: return new int[] {0, 1, 3, 3}[x];
            }
        }

        int sum(int x, int y) {
            switch (this) {
                case VALUES: return x == 4 || y == 4 ? 4 : x + y > 3 ? x + y - 4 : x + y;
                case ROUGHLY: return x * y;
                default:
                    return new int[][] {{0, 0, 0, 0}, {0, 1, 2, 3}, {0, 2, 3, 3}, {0, 3, 3, 3}}[x][y];
            }
        }
    }

    /** All that functions come to, by a map from "function and arguments". */
    static final class Known {
        final Way way;
        final State state;
        final List<Node> trees = new ArrayList<>();
        Map<String, Integer> table = new HashMap<>();
        int rounds;

        Known(Way way, State state) {
            this.way = way;
            this.state = state;
            for (int f = 0; f < state.functions(); f++) {
                trees.add(new Parser(state.bodies.get(f).toString(), state.arguments).tree());
            }
            for (boolean more = true; more;) {
                Map<String, Integer> next = new HashMap<>();
                for (int f = 0; f < state.functions(); f++) {
                    for (int[] row : rows(f)) {
                        int outcome = outcome(f, row);
                        if (outcome != way.never) {
                            next.put(key(f, row), outcome);
                        }
                    }
                }
                more = !next.equals(table);
                rounds += more ? 1 : 0;
                table = next;
            }
        }

        List<int[]> rows(int f) {
            List<int[]> rows = new ArrayList<>();
            rows.add(new int[0]);
            for (int i = 0; i < state.argumentsOf(f); i++) {
                List<int[]> longer = new ArrayList<>();
                for (int[] row : rows) {
                    for (int x = 0; x < way.base(); x++) {
                        int[] more = Arrays.copyOf(row, row.length + 1);
                        more[row.length] = x;
                        longer.add(more);
                    }
                }
                rows = longer;
            }
            return rows;
        }

        static String key(int f, int[] row) {
            return f + Arrays.toString(row);
        }

        int at(int f, int... row) {
            return table.getOrDefault(key(f, row), way.never);
        }

        int outcome(int f, int[] row) {
            int kind = state.kinds.get(f);
            int[] given = row.clone();
            if (kind == 3) {
                for (int i = 0; i < row.length; i++) {
                    given[i] = row[row.length - 1 - i];
                }
            }
            for (int i = 0; i < given.length; i++) {
                if (given[i] == way.never && (kind == 1 || kind == 3 || kind == 2 && i == 0)) {
                    return way.never;
                }
            }
            return of(trees.get(f), given);
        }

        int of(Node node, int[] given) {
            char letter = node.letter();
            List<Node> parts = node.parts();
            switch (letter) {
                case 'o': return way == Way.VALUES ? 0 : 1;
                case 'i': return way == Way.FINELY ? 2 : 1;
                case 'w': return way.never;
                case 'a': return given[0];
                case 'b': return given[1];
                case 'c': return given[2];
                case 'm': return way.less(of(parts.get(0), given));
                case '+': return way.sum(of(parts.get(0), given), of(parts.get(1), given));
                case '&':
                    return of(parts.get(0), given) == way.never ? way.never : of(parts.get(1), given);
                case '?': return chosen(of(parts.get(0), given), parts.get(1), parts.get(2), given);
                default: break;
            }
            int[] row = new int[parts.size()];
            for (int i = 0; i < row.length; i++) {
                row[i] = of(parts.get(i), given);
            }
            return at(letter - '0', row);
        }

        int chosen(int by, Node other, Node ifZero, int[] given) {
            switch (way) {
                case VALUES: return by == 4 ? 4 : of(by == 0 ? ifZero : other, given);
                case ROUGHLY: return by == 1 && of(other, given) + of(ifZero, given) > 0 ? 1 : 0;
                default:
                    return (by % 2 == 1 ? of(ifZero, given) : 0) | (by >= 2 ? of(other, given) : 0);
            }
        }

        int strict(int f) {
            int bits = 0;
            for (int i = 0; i < state.argumentsOf(f); i++) {
                bits |= strictIn(f, i) ? 1 << i : 0;
            }
            return bits;
        }

        /** Roughly and finely by the one row that the document names; truly by all rows. */
        boolean strictIn(int f, int argument) {
            if (way != Way.VALUES) {
                int[] row = new int[state.argumentsOf(f)];
                Arrays.fill(row, way.most);
                row[argument] = 0;
                return at(f, row) == 0;
            }
            for (int[] row : rows(f)) {
                if (row[argument] == 4 && at(f, row) != 4) {
                    return false;
                }
            }
            return true;
        }
    }

    /** Reads a body; a row of letters that is none has no tree. */
    static final class Parser {
        final String letters;
        final String arguments;
        int at;

        Parser(String letters, String arguments) {
            this.letters = letters;
            this.arguments = arguments;
        }

        Node tree() {
            Node node = part();
            return at == letters.length() ? node : null;
        }

        Node part() {
            if (at >= letters.length()) {
                at = letters.length() + 1;
                return null;
            }
            char letter = letters.charAt(at++);
            List<Node> parts = new ArrayList<>();
            for (int i = 0; i < partsOf(arguments, letter); i++) {
                parts.add(part());
            }
            return new Node(letter, parts);
        }
    }

    /** The second program. */
    static final class Oracle {
        State state = new State();
        String text = "";
        final Deque<Act> acts = new ArrayDeque<>();
        final Deque<State> kept = new ArrayDeque<>();
        private State read;
        private Known[] known = new Known[3];

        Oracle() {
            text = "n212;f0,?a0mabo;f0,+a?a1mao;f1,?ab2mb+ab;";
            lay();
            text = "";
        }

        Known known(Way way) {
            if (known[way.ordinal()] == null) {
                known[way.ordinal()] = new Known(way, state);
            }
            return known[way.ordinal()];
        }

        void changed() {
            known = new Known[3];
        }

        boolean has(int f) {
            return f >= 0 && f < state.functions();
        }

        int write(int letter) {
            if (letter < 32 || letter > 126) {
                return BAD;
            }
            if (text.length() == 200) {
                return FULL;
            }
            text += (char) letter;
            return text.length();
        }

        int wipe() {
            int was = text.length();
            text = "";
            return was;
        }

        int fault() {
            read = new State();
            int at = 0;
            while (at < text.length()) {
                int end = text.indexOf(';', at);
                if (end < 0 || !item(text.substring(at, end))) {
                    return at;
                }
                at = end + 1;
            }
            return NONE;
        }

        private boolean item(String item) {
            if (item.matches("n[0-3]{1,4}")) {
                boolean first = read.arguments.isEmpty();
                read.arguments = item.substring(1);
                return first;
            }
            if (!item.matches("f[0-3],.{1,24}") || read.functions() == read.arguments.length()) {
                return false;
            }
            String body = item.substring(3);
            for (char letter : body.toCharArray()) {
                if (!mayStand(read.arguments, read.functions(), letter)) {
                    return false;
                }
            }
            if (new Parser(body, read.arguments).tree() == null) {
                return false;
            }
            read.bodies.add(new StringBuilder(body));
            read.kinds.add(item.charAt(1) - '0');
            return true;
        }

        int lay() {
            if (fault() != NONE || read.functions() < read.arguments.length() || text.isEmpty()) {
                return NO;
            }
            state = read;
            acts.clear();
            kept.clear();
            changed();
            return state.functions();
        }

        int function(int f, int what) {
            if (!has(f) || what < 0 || what > 2) {
                return BAD;
            }
            return what == 0 ? state.kinds.get(f)
                : what == 1 ? state.argumentsOf(f) : state.bodies.get(f).length();
        }

        int letter(int f, int place) {
            boolean there = has(f) && place >= 0 && place < state.bodies.get(f).length();
            return there ? state.bodies.get(f).charAt(place) : BAD;
        }

        int put(int f, int place, int letter) {
            int was = letter(f, place);
            if (was == BAD || letter < 0 || letter > 126 || !otherwise(state, f, place, (char) letter)) {
                return BAD;
            }
            if (was == letter) {
                return NO;
            }
            act(new Act(f, place, was));
            state.bodies.get(f).setCharAt(place, (char) letter);
            changed();
            return was;
        }

        int rename(int f, int kind) {
            if (!has(f) || kind < 0 || kind > 3) {
                return BAD;
            }
            int was = state.kinds.get(f);
            if (was == kind) {
                return NO;
            }
            act(new Act(f, -1, was));
            state.kinds.set(f, kind);
            changed();
            return was;
        }

        private void act(Act act) {
            acts.addLast(act);
            if (acts.size() > 8) {
                acts.removeFirst();
            }
        }

        int undo() {
            if (acts.isEmpty()) {
                return NO;
            }
            Act act = acts.removeLast();
            if (act.place() < 0) {
                state.kinds.set(act.f(), act.before());
            } else {
                state.bodies.get(act.f()).setCharAt(act.place(), (char) act.before());
            }
            changed();
            return acts.size();
        }

        private int at(Way way, int f, int x, int y, int z) {
            int[] row = {x, y, z};
            if (!has(f)) {
                return BAD;
            }
            for (int i = 0; i < 3; i++) {
                int most = i < state.argumentsOf(f) ? way.base() - 1 : 0;
                if (row[i] < 0 || row[i] > most) {
                    return BAD;
                }
            }
            return known(way).at(f, Arrays.copyOf(row, state.argumentsOf(f)));
        }

        int value(int f, int x, int y, int z) {
            return at(Way.VALUES, f, x, y, z);
        }

        int rough(int f, int bits) {
            return bits < 0 || bits > 7 ? BAD : at(Way.ROUGHLY, f, bits & 1, bits >> 1 & 1, bits >> 2);
        }

        int fine(int f, int x, int y, int z) {
            return at(Way.FINELY, f, x, y, z);
        }

        int rounds(int what) {
            return what < 0 || what > 2 ? BAD : known(Way.values()[what]).rounds;
        }

        int frontier(int f, int k) {
            if (!has(f) || k < -1) {
                return BAD;
            }
            List<Integer> least = new ArrayList<>();
            for (int bits = 0; bits < 1 << state.argumentsOf(f); bits++) {
                boolean is = rough(f, bits) == 1;
                for (int fewer = bits; is && fewer > 0;) {
                    fewer = fewer - 1 & bits;
                    is = rough(f, fewer) == 0;
                }
                if (is) {
                    least.add(bits);
                }
            }
            return k == -1 ? least.size() : k < least.size() ? least.get(k) : NONE;
        }

        private Known strictly(int what) {
            return known(new Way[] {Way.ROUGHLY, Way.FINELY, Way.VALUES}[what]);
        }

        int strict(int f, int what) {
            return !has(f) || what < 0 || what > 2 ? BAD : strictly(what).strict(f);
        }

        int early(int f, int what) {
            if (!has(f) || what < 0 || what > 3) {
                return BAD;
            }
            int parts = 0;
            for (char letter : state.bodies.get(f).toString().toCharArray()) {
                for (int i = 0; letter <= '3' && letter >= '0' && i < state.argumentsOf(letter - '0'); i++) {
                    parts += what == 3 || strictly(what).strictIn(letter - '0', i) ? 1 : 0;
                }
            }
            return parts;
        }

        int same(int f, int g) {
            if (!has(f) || !has(g)) {
                return BAD;
            }
            boolean same = state.argumentsOf(f) == state.argumentsOf(g);
            for (int[] row : known(Way.VALUES).rows(f)) {
                same = same && known(Way.VALUES).at(f, row) == known(Way.VALUES).at(g, row);
            }
            return same ? 1 : 0;
        }

        int first(int f, int v) {
            if (!has(f) || v < 0 || v > 4) {
                return BAD;
            }
            for (int[] row : known(Way.VALUES).rows(f)) {
                if (known(Way.VALUES).at(f, row) == v) {
                    int[] all = Arrays.copyOf(row, 3);
                    return all[0] * 100 + all[1] * 10 + all[2];
                }
            }
            return NONE;
        }

        int makes(int f, int argument) {
            if (!has(f) || argument < 0 || argument >= state.argumentsOf(f)) {
                return BAD;
            }
            if (known(Way.FINELY).strictIn(f, argument)) {
                return NO;
            }
            for (int place = 0; place < state.bodies.get(f).length(); place++) {
                for (char letter : ORDER.toCharArray()) {
                    if (letter(f, place) != letter && otherwise(state, f, place, letter)) {
                        State other = state.copy();
                        other.bodies.get(f).setCharAt(place, letter);
                        if (new Known(Way.FINELY, other).strictIn(f, argument)) {
                            return 200 * place + letter;
                        }
                    }
                }
            }
            return NONE;
        }

        int day(int z, int n, int what) {
            if (z < 0 || z > 9999 || n < 1 || n > 20 || what < 0 || what > 2) {
                return BAD;
            }
            State other = state.copy();
            for (int k = 0; k < n; k++) {
                long x = 7919L * z + 6151L * k + 1L;
                int draw = (int) (x * x % 65521L);
                int f = draw % other.functions();
                StringBuilder body = other.bodies.get(f);
                int place = draw / 8 % body.length();
                int letter = ORDER.indexOf(body.charAt(place));
                do {
                    letter = letter == 13 ? 0 : letter + 1;
                } while (!otherwise(other, f, place, ORDER.charAt(letter)));
                body.setCharAt(place, ORDER.charAt(letter));
            }
            Known then = new Known(what == 0 ? Way.FINELY : Way.VALUES, other);
            int together = 0;
            for (int f = 0; f < other.functions(); f++) {
                together += Integer.bitCount(then.strict(f));
            }
            return what == 2 ? then.table.size() : together;
        }

        int keep() {
            if (kept.size() == 2) {
                return FULL;
            }
            kept.push(state.copy());
            return kept.size();
        }

        int back() {
            if (kept.isEmpty()) {
                return NO;
            }
            state = kept.pop();
            acts.clear();
            changed();
            return kept.size();
        }

        int count(int what) {
            int letters = 0;
            int arguments = 0;
            for (int f = 0; f < state.functions(); f++) {
                letters += state.bodies.get(f).length();
                arguments += state.argumentsOf(f);
            }
            int[] all = {state.functions(), letters, arguments, acts.size(), kept.size(), text.length()};
            return what < 0 || what >= all.length ? BAD : all[what];
        }
    }

    /** Draws a text that is mostly right. */
    static String text(Draws d) {
        int functions = 1 + d.below(4);
        StringBuilder all = new StringBuilder("n");
        StringBuilder arguments = new StringBuilder();
        for (int f = 0; f < functions; f++) {
            arguments.append((char) ('0' + d.below(4)));
        }
        all.append(arguments).append(';');
        for (int f = 0; f < functions; f++) {
            all.append('f').append((char) ('0' + d.below(4))).append(',');
            all.append(body(d, arguments.toString(), f, 1 + d.below(24))).append(';');
        }
        for (int faults = d.oneIn(4) ? 1 + d.below(2) : 0; faults > 0; faults--) {
            int place = d.below(all.length());
            char letter = (ORDER + ",;nf45 ").charAt(d.below(21));
            switch (d.below(3)) {
                case 0: all.setCharAt(place, letter); break;
                case 1: all.insert(place, letter); break;
                default: all.deleteCharAt(place); break;
            }
        }
        return all.toString();
    }

    /** A body of some such length: letters are drawn till as many parts are open as there is room. */
    static String body(Draws d, String arguments, int f, int length) {
        StringBuilder body = new StringBuilder();
        int open = 1;
        while (open > 0) {
            char letter = LIVELY.charAt(d.below(LIVELY.length()));
            if (!mayStand(arguments, f, letter)) {
                continue;
            }
            int parts = partsOf(arguments, letter);
            boolean roomy = body.length() + open + parts <= length;
            if (parts == 0 ? open > 1 || !roomy || d.oneIn(8) || length < 3 : roomy) {
                body.append(letter);
                open += parts - 1;
            }
        }
        return body.toString();
    }

    static void check(long seed, String call, int got, int due) {
        if (got == due) {
            passed++;
        } else {
            failed++;
            if (failed < 20) {
                System.out.println("seed " + seed + ": " + call + " answered " + got + ", due is " + due);
            }
        }
    }

    /** A number that is mostly from 0 to most, at times just beside or far off. */
    static int about(Draws d, int most) {
        if (d.oneIn(12)) {
            int[] odd = {-1, -2, most + 1, most + 2, Integer.MAX_VALUE, Integer.MIN_VALUE, 1 << 16, -255};
            return odd[d.below(odd.length)];
        }
        return d.below(most + 1);
    }

    static void call(long seed, Draws d, EarlyValues x, Oracle y) {
        int most = Math.max(0, y.state.functions() - 1);
        int f = about(d, most);
        int a = about(d, 4);
        int b = d.oneIn(3) ? 0 : about(d, 4);
        int c = d.oneIn(3) ? 0 : about(d, 4);
        int place = about(d, y.has(f) ? y.state.bodies.get(f).length() - 1 : 5);
        int sign = d.oneIn(20) ? about(d, 130) : ORDER.charAt(d.below(14));
        int kind = about(d, 3);
        int what = about(d, 2);
        int z = about(d, 9999);
        int n = d.oneIn(12) ? about(d, 21) : 1 + d.below(20);
        String told = "(" + f + ", " + a + ", " + b + ", " + c + ")";
        switch (d.below(26)) {
            case 0: case 1: case 2: check(seed, "value" + told, x.value(f, a, b, c), y.value(f, a, b, c)); break;
            case 3: check(seed, "rough", x.rough(f, about7(d, a)), y.rough(f, last)); break;
            case 4: case 5: check(seed, "fine" + told, x.fine(f, a, b, c), y.fine(f, a, b, c)); break;
            case 6: check(seed, "rounds " + what, x.rounds(what), y.rounds(what)); break;
            case 7: check(seed, "frontier", x.frontier(f, a - 1), y.frontier(f, a - 1)); break;
            case 8: check(seed, "strict", x.strict(f, what), y.strict(f, what)); break;
            case 9: check(seed, "early", x.early(f, kind), y.early(f, kind)); break;
            case 10: check(seed, "same", x.same(f, a), y.same(f, a)); break;
            case 11: check(seed, "first", x.first(f, a), y.first(f, a)); break;
            case 12: check(seed, "makes", x.makes(f, what), y.makes(f, what)); break;
            case 13: check(seed, "day " + z + " " + n, x.day(z, n, what), y.day(z, n, what)); break;
            case 14: check(seed, "keep", x.keep(), y.keep()); break;
            case 15: check(seed, "back", x.back(), y.back()); break;
            case 16: check(seed, "count", x.count(z % 7), y.count(z % 7)); break;
            case 17: case 18: check(seed, "put", x.put(f, place, sign), y.put(f, place, sign)); break;
            case 19: check(seed, "rename", x.rename(f, kind), y.rename(f, kind)); break;
            case 20: check(seed, "undo", x.undo(), y.undo()); break;
            case 21: check(seed, "letter", x.letter(f, place), y.letter(f, place)); break;
            case 22: check(seed, "function", x.function(f, what), y.function(f, what)); break;
            case 23: check(seed, "write", x.write(sign), y.write(sign)); break;
            case 24: check(seed, "fault", x.fault(), y.fault()); break;
            default: check(seed, "lay", x.lay(), y.lay()); break;
        }
    }

    private static int last;

    private static int about7(Draws d, int other) {
        last = d.oneIn(8) ? other : d.below(8);
        return last;
    }

    static void writeAll(long seed, EarlyValues x, Oracle y, String text) {
        check(seed, "wipe", x.wipe(), y.wipe());
        for (char letter : text.toCharArray()) {
            check(seed, "write " + letter, x.write(letter), y.write(letter));
        }
        check(seed, "fault of " + text, x.fault(), y.fault());
        check(seed, "lay of " + text, x.lay(), y.lay());
    }

    static void run(long seed) {
        Draws d = new Draws(seed);
        EarlyValues x = new EarlyValues();
        Oracle y = new Oracle();
        int calls = 0;
        while (calls < 512) {
            String text = text(d);
            if (calls == 0 && d.oneIn(10) || calls + text.length() + 3 > 512) {
                text = "";
            }
            if (!text.isEmpty()) {
                writeAll(seed, x, y, text);
                calls += text.length() + 3;
            }
            for (int i = 60 + d.below(100); i > 0 && calls < 512; i--) {
                call(seed, d, x, y);
                calls++;
            }
        }
        for (int f = 0; f < y.state.functions(); f++) {
            for (int what = 0; what < 3; what++) {
                check(seed, "strict at the end", x.strict(f, what), y.strict(f, what));
                check(seed, "rounds at the end", x.rounds(what), y.rounds(what));
                check(seed, "makes at the end", x.makes(f, what), y.makes(f, what));
            }
        }
    }

    public static void main(String[] args) {
        int runs = args.length > 0 ? Integer.parseInt(args[0]) : 300;
        for (int seed = 1; seed <= runs; seed++) {
            run(seed);
        }
        System.out.println("OracleTests: " + passed + " passed, " + failed + " failed");
        if (failed != 0) {
            System.exit(1);
        }
    }
}
