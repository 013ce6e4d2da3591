import java.util.Arrays;

/**
 * Functions over values that come late, or never: what they come to, what is known of it roughly
 * and finely, and in which arguments they are strict. ../shared/DOC.md tells what each call does.
 */
public final class EarlyValues {
    public static final int BAD = -1, NO = -2, FULL = -3, NONE = -4;

    private static final int KEPT_MOST = 2;
    private static final int FIRST_SIGN = 32;
    private static final int LAST_SIGN = 126;
    private static final String START = "n212;f0,?a0mabo;f0,+a?a1mao;f1,?ab2mb+ab;";

    private final Text text;
    private final Program now;
    private final Program trial;
    private final Program[] kept;
    private int keptCount;
    private final History history;
    private final View values;
    private final View roughly;
    private final View finely;
    private final View trialValues;
    private final View trialFinely;

    public EarlyValues() {
        text = new Text();
        now = new Program();
        trial = new Program();
        kept = new Program[KEPT_MOST];
        for (int i = 0; i < KEPT_MOST; i++) {
            kept[i] = new Program();
        }
        history = new History();
        values = new Values();
        roughly = new Roughly();
        finely = new Finely();
        trialValues = new Values();
        trialFinely = new Finely();
        layStart();
    }

    private void layStart() {
        for (int i = 0; i < START.length(); i++) {
            text.add(START.charAt(i));
        }
        text.read();
        now.takeFrom(text.told);
        text.clear();
    }

    // ---- functions

    public int write(int letter) {
        if (letter < FIRST_SIGN || letter > LAST_SIGN) {
            return BAD;
        }
        if (text.length >= Text.MOST) {
            return FULL;
        }
        text.add((char) letter);
        return text.length;
    }

    public int wipe() {
        int length = text.length;
        text.clear();
        return length;
    }

    public int fault() {
        return text.read();
    }

    public int lay() {
        if (text.read() != NONE || !text.toldAll()) {
            return NO;
        }
        now.takeFrom(text.told);
        history.clear();
        keptCount = 0;
        forgetViews();
        return now.functions;
    }

    public int function(int f, int what) {
        if (!now.has(f)) {
            return BAD;
        }
        switch (what) {
            case 0: return now.kinds[f];
            case 1: return now.arguments[f];
            case 2: return now.lengths[f];
            default: return BAD;
        }
    }

    public int letter(int f, int place) {
        return now.hasPlace(f, place) ? Letters.signOf(now.bodies[f][place]) : BAD;
    }

    // ---- acts

    public int put(int f, int place, int letter) {
        int number = Letters.numberOf(letter);
        if (!now.hasPlace(f, place) || !now.fits(f, place, number)) {
            return BAD;
        }
        int before = now.bodies[f][place];
        if (before == number) {
            return NO;
        }
        history.add(f, place, before);
        now.bodies[f][place] = number;
        forgetViews();
        return Letters.signOf(before);
    }

    public int rename(int f, int kind) {
        if (!now.has(f) || kind < Program.PLAIN || kind > Program.TURNED) {
            return BAD;
        }
        int before = now.kinds[f];
        if (before == kind) {
            return NO;
        }
        history.add(f, History.KIND, before);
        now.kinds[f] = kind;
        forgetViews();
        return before;
    }

    public int undo() {
        if (history.count == 0) {
            return NO;
        }
        history.takeBack(now);
        forgetViews();
        return history.count;
    }

    // ---- what all comes to

    public int value(int f, int x, int y, int z) {
        int row = values.rowOf(now, f, x, y, z);
        return row < 0 ? BAD : solved(values).at(f, row);
    }

    public int rough(int f, int bits) {
        if (!now.has(f) || bits < 0 || bits >= roughly.rowsOf(now, f)) {
            return BAD;
        }
        return solved(roughly).at(f, bits);
    }

    public int fine(int f, int x, int y, int z) {
        int row = finely.rowOf(now, f, x, y, z);
        return row < 0 ? BAD : solved(finely).at(f, row);
    }

    public int rounds(int what) {
        switch (what) {
            case 0: return solved(values).taken;
            case 1: return solved(roughly).taken;
            case 2: return solved(finely).taken;
            default: return BAD;
        }
    }

    public int frontier(int f, int k) {
        if (!now.has(f) || k < -1) {
            return BAD;
        }
        View view = solved(roughly);
        int found = 0;
        for (int bits = 0; bits < view.rowsOf(now, f); bits++) {
            if (isLeast(view, f, bits)) {
                if (found == k) {
                    return bits;
                }
                found++;
            }
        }
        return k == -1 ? found : NONE;
    }

    public int strict(int f, int what) {
        View view = strictView(what);
        return view == null || !now.has(f) ? BAD : solved(view).strictBits(now, f);
    }

    public int early(int f, int what) {
        View view = strictView(what);
        boolean allParts = what == 3;
        if (!now.has(f) || view == null && !allParts) {
            return BAD;
        }
        int parts = 0;
        for (int place = 0; place < now.lengths[f]; place++) {
            int called = now.bodies[f][place] - Letters.CALL;
            if (now.has(called)) {
                parts += view == null
                    ? now.arguments[called]
                    : Integer.bitCount(solved(view).strictBits(now, called));
            }
        }
        return parts;
    }

    public int same(int f, int g) {
        if (!now.has(f) || !now.has(g)) {
            return BAD;
        }
        if (now.arguments[f] != now.arguments[g]) {
            return 0;
        }
        View view = solved(values);
        for (int row = 0; row < view.rowsOf(now, f); row++) {
            if (view.at(f, row) != view.at(g, row)) {
                return 0;
            }
        }
        return 1;
    }

    public int first(int f, int v) {
        if (!now.has(f) || v < 0 || v > Values.NEVER) {
            return BAD;
        }
        View view = solved(values);
        int least = NONE;
        for (int row = 0; row < view.rowsOf(now, f); row++) {
            int told = 100 * view.digits[0][row] + 10 * view.digits[1][row] + view.digits[2][row];
            if (view.at(f, row) == v && (least == NONE || told < least)) {
                least = told;
            }
        }
        return least;
    }

    public int makes(int f, int argument) {
        if (!now.has(f) || argument < 0 || argument >= now.arguments[f]) {
            return BAD;
        }
        if (solved(finely).isStrict(now, f, argument)) {
            return NO;
        }
        trial.takeFrom(now);
        for (int place = 0; place < now.lengths[f]; place++) {
            for (int letter = 0; letter < Letters.COUNT; letter++) {
                if (now.bodies[f][place] != letter && now.fits(f, place, letter)) {
                    trial.bodies[f][place] = letter;
                    if (trialFinely.staysStrict(trial, f, argument)) {
                        return 200 * place + Letters.signOf(letter);
                    }
                }
            }
            trial.bodies[f][place] = now.bodies[f][place];
        }
        return NONE;
    }

    // ---- days

    public int day(int z, int n, int what) {
        if (z < 0 || z > 9999 || n < 1 || n > 20 || what < 0 || what > 2) {
            return BAD;
        }
        trial.takeFrom(now);
        for (int k = 0; k < n; k++) {
            long x = 7919L * z + 6151L * k + 1;
            trial.turnLetter((int) (x * x % 65521));
        }
        View view = what == 0 ? trialFinely : trialValues;
        view.solve(trial);
        int together = 0;
        for (int f = 0; f < trial.functions; f++) {
            together += what == 2
                ? view.rowsThatCome(trial, f)
                : Integer.bitCount(view.strictBits(trial, f));
        }
        return together;
    }

    public int keep() {
        if (keptCount >= KEPT_MOST) {
            return FULL;
        }
        kept[keptCount].takeFrom(now);
        keptCount++;
        return keptCount;
    }

    public int back() {
        if (keptCount <= 0 || keptCount > KEPT_MOST) {
            return NO;
        }
        keptCount--;
        now.takeFrom(kept[keptCount]);
        history.clear();
        forgetViews();
        return keptCount;
    }

    public int count(int what) {
        switch (what) {
            case 0: return now.functions;
            case 1: return now.allOf(now.lengths);
            case 2: return now.allOf(now.arguments);
            case 3: return history.count;
            case 4: return keptCount;
            case 5: return text.length;
            default: return BAD;
        }
    }

    // ---- what the calls share

    /** By which a function is strict: the order of strict() and early() is not that of rounds(). */
    private View strictView(int what) {
        switch (what) {
            case 0: return roughly;
            case 1: return finely;
            case 2: return values;
            default: return null;
        }
    }

    /** Finding what all comes to is dear, so it is done once behind each change, when asked for. */
    private View solved(View view) {
        if (!view.fresh) {
            view.solve(now);
        }
        return view;
    }

    private void forgetViews() {
        values.fresh = false;
        roughly.fresh = false;
        finely.fresh = false;
    }

    private boolean isLeast(View view, int f, int bits) {
        if (view.at(f, bits) == 0) {
            return false;
        }
        for (int fewer = 0; fewer < bits; fewer++) {
            if ((fewer & bits) == fewer && view.at(f, fewer) != 0) {
                return false;
            }
        }
        return true;
    }

    // ---- classes inside

    /** The letters of bodies; inside they go by their number in the order that the document tells. */
    static final class Letters {
        static final String ORDER = "oiwabcm+&?0123";
        static final int COUNT = 14;
        static final int ZERO = 0, ONE = 1, NEVER = 2, ARGUMENT = 3;
        static final int LESS = 6, SUM = 7, BEHIND = 8, CHOICE = 9, CALL = 10;

        static int numberOf(int sign) {
            return sign < FIRST_SIGN || sign > LAST_SIGN ? -1 : ORDER.indexOf((char) sign);
        }

        static int signOf(int number) {
            return number < 0 || number >= COUNT ? BAD : ORDER.charAt(number);
        }
    }

    /** Functions with their kinds and bodies. */
    static final class Program {
        static final int FUNCTIONS_MOST = 4, ARGUMENTS_MOST = 3, BODY_MOST = 24;
        static final int PLAIN = 0, EAGER = 1, HALF = 2, TURNED = 3;

        int functions;
        final int[] arguments = new int[FUNCTIONS_MOST];
        final int[] kinds = new int[FUNCTIONS_MOST];
        final int[] lengths = new int[FUNCTIONS_MOST];
        final int[][] bodies = new int[FUNCTIONS_MOST][BODY_MOST];

        void takeFrom(Program other) {
            functions = other.functions;
            for (int f = 0; f < FUNCTIONS_MOST; f++) {
                arguments[f] = other.arguments[f];
                kinds[f] = other.kinds[f];
                lengths[f] = other.lengths[f];
                System.arraycopy(other.bodies[f], 0, bodies[f], 0, BODY_MOST);
            }
        }

        boolean has(int f) {
            return f >= 0 && f < functions;
        }

        boolean hasPlace(int f, int place) {
            return has(f) && place >= 0 && place < lengths[f];
        }

        /** How many parts a letter has; calls have as many as the function has arguments. */
        int partsOf(int letter) {
            if (has(letter - Letters.CALL)) {
                return arguments[letter - Letters.CALL];
            }
            switch (letter) {
                case Letters.LESS: return 1;
                case Letters.SUM:
                case Letters.BEHIND: return 2;
                case Letters.CHOICE: return 3;
                default: return 0;
            }
        }

        boolean mayStand(int f, int letter) {
            if (!has(f) || letter < 0) {
                return false;
            }
            if (letter >= Letters.CALL) {
                return has(letter - Letters.CALL);
            }
            return letter < Letters.ARGUMENT
                || letter >= Letters.LESS
                || letter - Letters.ARGUMENT < arguments[f];
        }

        /** Whether a letter might be where another is now (or is it itself). */
        boolean fits(int f, int place, int letter) {
            return hasPlace(f, place)
                && mayStand(f, letter)
                && partsOf(letter) == partsOf(bodies[f][place]);
        }

        /** By a draw a letter of a function becomes the next one that fits. */
        void turnLetter(int draw) {
            if (draw < 0 || functions <= 0) {
                return;
            }
            int f = draw % functions;
            if (!has(f) || lengths[f] <= 0) {
                return;
            }
            int place = draw / 8 % lengths[f];
            int letter = bodies[f][place];
            for (int step = 1; step < Letters.COUNT; step++) {
                int next = (letter + step) % Letters.COUNT;
                if (fits(f, place, next)) {
                    bodies[f][place] = next;
                    return;
                }
            }
        }

        int allOf(int[] each) {
            int all = 0;
            for (int f = 0; f < functions && f < each.length; f++) {
                all += each[f];
            }
            return all;
        }
    }

    /** The latest acts, with what was before each; an older one gives way to a ninth. */
    static final class History {
        static final int MOST = 8;
        static final int KIND = -1;

        final int[] functions = new int[MOST];
        final int[] places = new int[MOST];
        final int[] befores = new int[MOST];
        int count;

        void add(int f, int place, int before) {
            if (count >= MOST) {
                count = MOST - 1;
                System.arraycopy(functions, 1, functions, 0, count);
                System.arraycopy(places, 1, places, 0, count);
                System.arraycopy(befores, 1, befores, 0, count);
            }
            functions[count] = f;
            places[count] = place;
            befores[count] = before;
            count++;
        }

        void takeBack(Program program) {
            if (count <= 0 || count > MOST) {
                return;
            }
            count--;
            int f = functions[count];
            int place = places[count];
            if (place == KIND && program.has(f)) {
                program.kinds[f] = befores[count];
            } else if (program.hasPlace(f, place)) {
                program.bodies[f][place] = befores[count];
            }
        }

        void clear() {
            count = 0;
        }
    }

    /** The text, and the functions that it tells when it is read item by item. */
    static final class Text {
        static final int MOST = 200;
        static final char END = (char) 0;

        final Program told = new Program();
        int length;
        private final char[] signs = new char[MOST];
        private int at;
        private int bodies;

        void add(char sign) {
            if (length < MOST) {
                signs[length] = sign;
                length++;
            }
        }

        void clear() {
            length = 0;
        }

        /** The place of the first item that is not so, or NONE. */
        int read() {
            at = 0;
            bodies = 0;
            told.functions = 0;
            for (int items = 0; items < MOST && at < length; items++) {
                int start = at;
                if (!readItem()) {
                    return start;
                }
            }
            return NONE;
        }

        /** An empty text tells no functions, so nothing of it can be laid. */
        boolean toldAll() {
            return told.functions > 0 && bodies == told.functions;
        }

        private char next() {
            if (at >= length) {
                return END;
            }
            char sign = signs[at];
            at++;
            return sign;
        }

        private boolean readItem() {
            char kind = next();
            return kind == 'n' ? readArguments() : kind == 'f' && readFunction();
        }

        private boolean readArguments() {
            if (told.functions > 0) {
                return false;
            }
            for (int f = 0; f < Program.FUNCTIONS_MOST; f++) {
                char sign = next();
                if (sign == ';') {
                    return f > 0;
                }
                if (sign < '0' || sign > '3') {
                    return false;
                }
                told.arguments[f] = sign - '0';
                told.functions = f + 1;
            }
            return next() == ';';
        }

        private boolean readFunction() {
            if (!told.has(bodies)) {
                return false;
            }
            int kind = next() - '0';
            if (kind < Program.PLAIN || kind > Program.TURNED) {
                return false;
            }
            told.kinds[bodies] = kind;
            if (next() != ',' || !readBody() || next() != ';') {
                return false;
            }
            bodies++;
            return true;
        }

        private boolean readBody() {
            int missing = 1;
            int place = 0;
            while (missing > 0 && place < Program.BODY_MOST) {
                int letter = Letters.numberOf(next());
                if (!told.mayStand(bodies, letter)) {
                    return false;
                }
                told.bodies[bodies][place] = letter;
                missing += told.partsOf(letter) - 1;
                place++;
            }
            told.lengths[bodies] = place;
            return missing == 0;
        }
    }

    /**
     * What is known of functions, told by numbers 0 to base - 1 of which one stands for NEVER:
     * for each function and each row of arguments, what it comes to. The first argument counts
     * least in a row's number, so that rough rows are the document's bits.
     */
    abstract static class View {
        /** Each round changes some row; 4 x 125 rows of values do so once, 4 x 64 fine ones twice. */
        static final int ROUNDS_MOST = 1000;

        final int base;
        final int never;
        final int zero;
        final int one;
        /** How many rows there are of so many arguments. */
        final int[] powers = new int[Program.ARGUMENTS_MOST + 1];
        /** What each argument is in each row. */
        final int[][] digits;
        byte[][] known;
        byte[][] coming;
        int taken;
        boolean fresh;
        private final int[] given = new int[Program.ARGUMENTS_MOST];
        private final int[] stack = new int[Program.BODY_MOST];
        private int depth;

        View(int base, int never, int zero, int one) {
            this.base = base;
            this.never = never;
            this.zero = zero;
            this.one = one;
            powers[0] = 1;
            for (int i = 1; i < powers.length; i++) {
                powers[i] = powers[i - 1] * base;
            }
            int rows = powers[Program.ARGUMENTS_MOST];
            digits = new int[Program.ARGUMENTS_MOST][rows];
            for (int row = 1; row < rows; row++) {
                countUp(row);
            }
            known = new byte[Program.FUNCTIONS_MOST][rows];
            coming = new byte[Program.FUNCTIONS_MOST][rows];
        }

        private void countUp(int row) {
            boolean carry = true;
            for (int i = 0; i < Program.ARGUMENTS_MOST; i++) {
                int next = digits[i][row - 1] + (carry ? 1 : 0);
                carry = next == base;
                digits[i][row] = carry ? 0 : next;
            }
        }

        /** One less, of a part that is not NEVER. */
        abstract int less(int part);

        /** The sum of two parts that are not NEVER. */
        abstract int sum(int left, int right);

        /** One of two parts, by a first one that is not NEVER. */
        abstract int chosen(int by, int other, int ifZero);

        /** Whether more rounds might make more of what is known. */
        abstract boolean mayGrow(int outcome);

        int rowsOf(Program program, int f) {
            return program.has(f) ? powers[program.arguments[f]] : 0;
        }

        /** The row of a function's arguments; -1, if they are none of its. */
        int rowOf(Program program, int f, int x, int y, int z) {
            if (!program.has(f) || !isDigit(x) || !isDigit(y) || !isDigit(z)) {
                return -1;
            }
            int row = x + powers[1] * y + powers[2] * z;
            return row < rowsOf(program, f) ? row : -1;
        }

        private boolean isDigit(int x) {
            return x >= 0 && x < base;
        }

        int at(int f, int row) {
            boolean isThere = f >= 0 && f < known.length && row >= 0 && row < known[f].length;
            return isThere ? known[f][row] : never;
        }

        void solve(Program program) {
            begin();
            boolean changed = true;
            for (int round = 0; changed && round < ROUNDS_MOST; round++) {
                taken = round;
                changed = advance(program);
            }
            fresh = true;
        }

        /**
         * Whether a function is found strict in an argument. Rounds only ever make more of what
         * is known, so what is not strict behind one of them is not strict in the end.
         */
        boolean staysStrict(Program program, int f, int argument) {
            begin();
            boolean changed = true;
            boolean strict = true;
            for (int round = 0; changed && strict && round < ROUNDS_MOST; round++) {
                changed = advance(program);
                strict = isStrict(program, f, argument);
            }
            return strict;
        }

        /**
         * NEVER for all rows in which the argument is NEVER: roughly and finely, too, since there
         * the row with the most in all others, which the document asks for, comes to the most.
         */
        boolean isStrict(Program program, int f, int argument) {
            if (argument < 0 || argument >= digits.length) {
                return false;
            }
            for (int row = 0; row < rowsOf(program, f); row++) {
                if (digits[argument][row] == never && at(f, row) != never) {
                    return false;
                }
            }
            return true;
        }

        int strictBits(Program program, int f) {
            int bits = 0;
            for (int i = 0; program.has(f) && i < program.arguments[f]; i++) {
                if (isStrict(program, f, i)) {
                    bits |= 1 << i;
                }
            }
            return bits;
        }

        int rowsThatCome(Program program, int f) {
            int rows = 0;
            for (int row = 0; row < rowsOf(program, f); row++) {
                if (at(f, row) != never) {
                    rows++;
                }
            }
            return rows;
        }

        private void begin() {
            for (int f = 0; f < known.length; f++) {
                Arrays.fill(known[f], (byte) never);
            }
        }

        /** A round: all calls come to what is known ahead of it. Whether it changed anything. */
        private boolean advance(Program program) {
            boolean changed = false;
            for (int f = 0; f < program.functions; f++) {
                for (int row = 0; row < rowsOf(program, f); row++) {
                    int before = at(f, row);
                    int outcome = before;
                    if (mayGrow(before) && handOver(program, f, row)) {
                        outcome = bodyComesTo(program, f);
                    }
                    coming[f][row] = (byte) outcome;
                    changed = changed || outcome != before;
                }
            }
            byte[][] behind = known;
            known = coming;
            coming = behind;
            return changed;
        }

        /** Makes the arguments ready for the body; not, if by its kind it comes to NEVER anyway. */
        private boolean handOver(Program program, int f, int row) {
            int kind = program.kinds[f];
            int last = program.arguments[f] - 1;
            boolean eager = kind == Program.EAGER || kind == Program.TURNED;
            for (int i = 0; i <= last; i++) {
                int argument = digits[i][row];
                if (argument == never && (eager || kind == Program.HALF && i == 0)) {
                    return false;
                }
                given[kind == Program.TURNED ? last - i : i] = argument;
            }
            return true;
        }

        /** From the last letter to the first, so that the parts of each stand ready on the stack. */
        private int bodyComesTo(Program program, int f) {
            depth = 0;
            for (int place = program.lengths[f] - 1; place >= 0; place--) {
                int letter = program.bodies[f][place];
                int parts = program.partsOf(letter);
                int first = parts > 0 ? pop() : 0;
                int second = parts > 1 ? pop() : 0;
                int third = parts > 2 ? pop() : 0;
                push(letterComesTo(letter, first, second, third));
            }
            return pop();
        }

        private void push(int part) {
            if (depth < stack.length) {
                stack[depth] = part;
                depth++;
            }
        }

        private int pop() {
            if (depth <= 0) {
                return never;
            }
            depth--;
            return stack[depth];
        }

        private int letterComesTo(int letter, int first, int second, int third) {
            switch (letter) {
                case Letters.ZERO: return zero;
                case Letters.ONE: return one;
                case Letters.NEVER: return never;
                case Letters.LESS: return first == never ? never : less(first);
                case Letters.SUM:
                    return first == never || second == never ? never : sum(first, second);
                case Letters.BEHIND: return first == never ? never : second;
                case Letters.CHOICE: return first == never ? never : chosen(first, second, third);
                default: break;
            }
            if (letter >= Letters.CALL) {
                return at(letter - Letters.CALL, first + powers[1] * second + powers[2] * third);
            }
            int argument = letter - Letters.ARGUMENT;
            return argument >= 0 && argument < given.length ? given[argument] : never;
        }
    }

    /** The values themselves: 0 to 3, and NEVER. */
    static final class Values extends View {
        static final int NEVER = 4;

        Values() {
            super(5, NEVER, 0, 1);
        }

        int less(int part) {
            return Math.max(part - 1, 0);
        }

        int sum(int left, int right) {
            return left + right & 3;
        }

        int chosen(int by, int other, int ifZero) {
            return by == 0 ? ifZero : other;
        }

        boolean mayGrow(int outcome) {
            return outcome == NEVER;
        }
    }

    /** 0 for NEVER, 1 for all else. */
    static final class Roughly extends View {
        Roughly() {
            super(2, 0, 1, 1);
        }

        int less(int part) {
            return part;
        }

        int sum(int left, int right) {
            return 1;
        }

        int chosen(int by, int other, int ifZero) {
            return other | ifZero;
        }

        boolean mayGrow(int outcome) {
            return outcome == 0;
        }
    }

    /** Bits: 1 that it may be 0, 2 that it may be another one. */
    static final class Finely extends View {
        static final int MAY_BE_ZERO = 1, MAY_BE_OTHER = 2, MAY_BE_BOTH = 3;

        Finely() {
            super(4, 0, MAY_BE_ZERO, MAY_BE_OTHER);
        }

        int less(int part) {
            return (part & MAY_BE_OTHER) != 0 ? MAY_BE_BOTH : part;
        }

        int sum(int left, int right) {
            if ((left & right & MAY_BE_OTHER) != 0) {
                return MAY_BE_BOTH;
            }
            int zeros = left & right & MAY_BE_ZERO;
            int others = (left | right) & MAY_BE_OTHER;
            return zeros | others;
        }

        int chosen(int by, int other, int ifZero) {
            int outcome = 0;
            if ((by & MAY_BE_ZERO) != 0) {
                outcome |= ifZero;
            }
            if ((by & MAY_BE_OTHER) != 0) {
                outcome |= other;
            }
            return outcome;
        }

        boolean mayGrow(int outcome) {
            return outcome != MAY_BE_BOTH;
        }
    }
}
