/** The boundaries that promises 1 to 7 name: a new object, the text, its faults, what is laid of it. */
public final class TextBoundaryTests {
    private static final int BAD = Checks.BAD, NO = Checks.NO, FULL = Checks.FULL, NONE = Checks.NONE;
    private static final int[] FAR = {Checks.LEAST, Checks.LEAST + 1, -65536, -256, 65536, 1 << 30, Checks.MOST};

    private static void says(int promise, String words) {
        Checks.says(promise, words);
    }

    private static void due(String call, long got, long want) {
        Checks.due(call, got, want);
    }

    private static void dueFault(String text, int want) {
        due("fault of " + text, Checks.written(text).fault(), want);
    }

    // ---- promise 1

    private static void newObject() {
        says(1, "at first n212;f0,?a0mabo;f0,+a?a1mao;f1,?ab2mb+ab;");
        Checks.alike("all that is seen", Seen.of(x -> { }), Seen.of(x -> {
            Checks.write(x, Checks.START);
            x.lay();
            x.wipe();
        }));
        Checks.alike("functions", Checks.told(new EarlyValues()), Checks.START);
        says(1, "`EarlyValues()`: As told.");
        due("length of the text", new EarlyValues().count(5), 0);
        due("can be undone", new EarlyValues().count(3), 0);
        due("kept", new EarlyValues().count(4), 0);
        due("undo", new EarlyValues().undo(), NO);
        due("back", new EarlyValues().back(), NO);
        due("wipe", new EarlyValues().wipe(), 0);
        due("fault", new EarlyValues().fault(), NONE);
        EarlyValues other = new EarlyValues();
        String before = Seen.of(x -> { });
        other.put(0, 0, 'o');
        other.rename(2, 0);
        other.keep();
        other.write('n');
        Checks.alike("a new object, whatever another one did", Seen.of(x -> { }), before);
    }

    // ---- promise 2

    private static void write() {
        says(2, "A letter (32 to 126, as in ASCII) comes behind THE TEXT: how long it is. BAD; FULL.");
        EarlyValues x = new EarlyValues();
        due("the last refused", x.write(31), BAD);
        due("the first taken", x.write(32), 1);
        due("the last taken", x.write(126), 2);
        due("the first refused", x.write(127), BAD);
        due("length", x.count(5), 2);
        EarlyValues all = new EarlyValues();
        for (int letter = 32; letter <= 126; letter++) {
            due("write " + letter, all.write(letter), letter - 31);
        }
        for (int letter : new int[] {-1, 0, 31, 127, 128, 255, 256 + 'n', 65536 + 'n', 'n' - 256, 1 << 31 | 'n'}) {
            due("write " + letter, all.write(letter), BAD);
        }
        for (int letter : FAR) {
            due("write " + letter, all.write(letter), BAD);
        }
        due("length", all.count(5), 95);
        fullText();
    }

    private static void fullText() {
        says(2, "A TEXT is letters (200 at most)");
        EarlyValues x = Checks.written(Checks.FULLEST);
        due("length", x.count(5), 118);
        for (int length = 119; length <= 200; length++) {
            due("write", x.write('o'), length);
        }
        due("one more", x.write('o'), FULL);
        due("and again", x.write('o'), FULL);
        due("length", x.count(5), 200);
        due("fault: nothing came over the first letters", x.fault(), 118);
        says(2, "Of several the first in this order, whatever the order at a call");
        for (int letter : new int[] {31, 127, Checks.LEAST, Checks.MOST}) {
            due("BAD ahead of FULL, " + letter, x.write(letter), BAD);
        }
        due("length", x.count(5), 200);
        x.wipe();
        due("write behind a wipe", x.write('o'), 1);
        says(2, "comes behind THE TEXT");
        EarlyValues y = Checks.written("n0;f0,o");
        due("behind a refused letter", y.write(127), BAD);
        due("the next one", y.write(';'), 8);
        due("fault", y.fault(), NONE);
        y.lay();
        due("behind lay", y.write('x'), 9);
        due("fault", y.fault(), 8);
    }

    // ---- promise 3

    private static void wipe() {
        says(3, "THE TEXT is empty: how long it was.");
        due("wipe of the empty text", new EarlyValues().wipe(), 0);
        for (int length : new int[] {1, 2, 118, 199, 200, 201}) {
            EarlyValues x = Checks.written("o".repeat(length));
            due("wipe of " + length, x.wipe(), Math.min(length, 200));
            due("length", x.count(5), 0);
            due("fault", x.fault(), NONE);
            due("lay", x.lay(), NO);
            due("wipe again", x.wipe(), 0);
        }
        EarlyValues x = Checks.written("n0;f0,o;");
        x.wipe();
        Checks.write(x, "n");
        due("what was wiped is not read behind a shorter text", x.fault(), 0);
        Checks.write(x, "0;");
        due("nor its functions", x.lay(), NO);
        Checks.write(x, "f0,i;");
        due("lay", x.lay(), 1);
        Checks.alike("functions, the kept, what can be undone, behind a wipe", Seen.of(y -> {
            Checks.write(y, "n0;f0,i;");
            acts(y);
            y.wipe();
        }), Seen.of(TextBoundaryTests::acts));
    }

    private static void acts(EarlyValues x) {
        x.keep();
        x.rename(0, 2);
        x.put(1, 0, '&');
    }

    // ---- promise 4

    private static void emptyAndCut() {
        says(4, "`int fault()`: FAULT. NONE.");
        due("fault of the empty text", new EarlyValues().fault(), NONE);
        says(4, "ITEMS one behind the other, each a letter, then what it tells, and a ; behind it");
        for (String text : new String[] {Checks.START, Checks.FULLEST, "n0;f3,o;"}) {
            for (int length = 0; length <= text.length(); length++) {
                int start = text.lastIndexOf(';', length - 1) + 1;
                dueFault(text.substring(0, length), start == length ? NONE : start);
            }
            for (int place = 0; place < text.length(); place++) {
                int start = text.lastIndexOf(';', place - 1) + 1;
                dueFault(text.substring(0, place) + ' ' + text.substring(place), start);
                dueFault(text.substring(0, place) + '~' + text.substring(place + 1), start);
            }
            dueFault(text + ";", text.length());
            dueFault(text + " ", text.length());
            dueFault(";" + text, 0);
        }
        says(4, "the place of the first letter of the first ITEM that is not so");
        dueFault("n0;f4,o;x", 3);
        dueFault("x;n0;", 0);
        dueFault("n0;f0,o;x;y;", 8);
        dueFault("n00;f0,o;f0,oo;f9,;", 9);
        String late = Checks.FULLEST + "f0,abc;";
        dueFault(late, 118);
        dueFault(late + "o".repeat(200 - late.length()), 118);
        dueFault("o".repeat(200), 0);
        dueFault(";".repeat(200), 0);
        dueFault("n3;" + "o".repeat(197), 3);
    }

    private static void everySign() {
        for (int sign = 32; sign <= 126; sign++) {
            char s = (char) sign;
            boolean figure = s >= '0' && s <= '3';
            says(4, "each a letter, then what it tells");
            dueFault(s + "0;", s == 'n' ? NONE : 0);
            dueFault("n0;" + s + "0,o;", s == 'f' ? NONE : 3);
            says(4, "(0 to 3 each)");
            dueFault("n" + s + ";", figure ? NONE : 0);
            dueFault("n000" + s + ";", figure ? NONE : s == ';' ? 5 : 0);
            says(4, "(0 PLAIN, 1 EAGER, 2 HALF, 3 TURNED; one figure)");
            dueFault("n0;f" + s + ",o;", figure ? NONE : 3);
            dueFault("n0;f" + s + "0,o;", 3);
            dueFault("n0;f0" + s + ",o;", 3);
            dueFault("n0;f0" + s + "o;", s == ',' ? NONE : 3);
            dueFault("n0;f0,o" + s, s == ';' ? NONE : 3);
            says(4, "its BODY is B, a row of 1 to 24 letters");
            dueFault("n3;f0," + s + ";", "oiwabc".indexOf(s) >= 0 ? NONE : 3);
            dueFault("n0;f0," + s + ";", "oiw0".indexOf(s) >= 0 ? NONE : 3);
            dueFault("n10;f0," + s + ";", "oiwa1".indexOf(s) >= 0 ? NONE : 4);
            dueFault("n3;f0," + s + "o;", s == 'm' ? NONE : 3);
            dueFault("n3;f0," + s + "oo;", s == '+' || s == '&' ? NONE : 3);
            dueFault("n3;f0," + s + "ooo;", s == '?' || s == '0' ? NONE : 3);
            dueFault("n3;f0," + s + "oooo;", 3);
        }
    }

    private static void rowsOfArguments() {
        says(4, "the row D of 1 to 4 figures tells (0 to 3 each)");
        dueFault("n;", 0);
        for (String row : new String[] {"0", "3", "03", "30", "012", "333", "0123", "3333", "0000"}) {
            dueFault("n" + row + ";", NONE);
        }
        for (String row : new String[] {"00000", "01230", "4", "04", "004", "0004", "-1", "1 ", "0,0"}) {
            dueFault("n" + row + ";", 0);
        }
        says(4, "ahead of all others, once");
        dueFault("n0;n0;", 3);
        dueFault("n1;n1;", 3);
        dueFault("n0123;n0;", 6);
        dueFault("n0;f0,o;n0;", 8);
        dueFault("n00;f0,o;n00;f0,o;", 9);
        dueFault("f0,o;n0;", 0);
        dueFault("f0,o;", 0);
    }

    private static void functionsOfText() {
        says(4, "the next FUNCTION (0 first) is of KIND K");
        for (int functions = 1; functions <= 4; functions++) {
            String text = "n" + "0".repeat(functions) + ";" + "f0,o;".repeat(functions);
            dueFault(text, NONE);
            dueFault(text + "f0,o;", text.length());
            dueFault(text.substring(0, text.length() - 5), NONE);
            says(4, "0 to 3 the FUNCTION of that number (such as there is)");
            for (char letter = '0'; letter <= '9'; letter++) {
                String row = "n" + "0".repeat(functions) + ";";
                dueFault(row + "f0," + letter + ";", letter - '0' < functions ? NONE : row.length());
            }
        }
        says(4, "a, b, c the first, second, third ARGUMENT (such as it has)");
        for (int has = 0; has <= 3; has++) {
            for (char letter = 'a'; letter <= 'd'; letter++) {
                boolean there = letter - 'a' < has;
                dueFault("n" + has + ";f0," + letter + ";", there ? NONE : 3);
                dueFault("n3" + has + ";f0,a;f0," + letter + ";", there ? NONE : 9);
                dueFault("n" + has + "3;f0," + letter + ";", there ? NONE : 4);
            }
        }
        says(4, "as many PARTS as it has ARGUMENTS");
        for (int has = 0; has <= 3; has++) {
            for (int given = 0; given <= 5; given++) {
                String body = "f0,1" + "o".repeat(given) + ";";
                dueFault("n" + (3 - has) + has + ";" + body, given == has ? NONE : 4);
            }
        }
    }

    private static void bodiesOfText() {
        says(4, "a row of 1 to 24 letters, each followed by as many PARTS as it has (a PART is a letter and its PARTS)");
        dueFault("n0;f0,;", 3);
        for (int letters = 1; letters <= 27; letters++) {
            int want = letters <= 24 ? NONE : 3;
            dueFault("n0;f0," + "m".repeat(letters - 1) + "o;", want);
            dueFault("n1;f0," + "0".repeat(letters - 1) + "a;", want);
            boolean odd = letters % 2 == 1;
            int pairs = (letters - 1) / 2;
            dueFault("n0;f0," + (odd ? "" : "m") + "+o".repeat(pairs) + "o;", want);
            dueFault("n0;f0," + "&".repeat(pairs) + (odd ? "o" : "mo") + "o".repeat(pairs) + ";", want);
            int threes = (letters - 1) / 3;
            String rest = "m".repeat((letters - 1) % 3);
            dueFault("n0;f0," + "?oo".repeat(threes) + rest + "o;", want);
            dueFault("n3;f0," + rest + "0abc".substring(0, 3).repeat(threes) + "c;", want);
        }
        dueFault("n0;f0," + "m".repeat(23) + "oo;", 3);
        dueFault("n0;f0," + "m".repeat(24) + ";", 3);
        dueFault("n0;f0," + "m".repeat(23) + "+;", 3);
        dueFault("n0;f0," + "+".repeat(12) + "o".repeat(12) + ";", 3);
        dueFault("n0;f0,m" + "+".repeat(11) + "o".repeat(12) + ";", NONE);
        for (String body : new String[] {"m", "+", "+o", "&", "&i", "?", "?o", "?oi", "0", "0a", "0ab", "?o0abi"}) {
            dueFault("n3;f0," + body + ";", 3);
            dueFault("n3;f0," + body, 3);
        }
        Checks.alike("all that is seen, behind a fault", Seen.of(EarlyValues::fault), Seen.of(x -> { }));
    }

    // ---- promise 5

    private static void lay() {
        says(5, "LAID is a TEXT without FAULT, in which all FUNCTIONS have a BODY (NO else;");
        due("lay of the empty text", new EarlyValues().lay(), NO);
        for (int functions = 1; functions <= 4; functions++) {
            String row = "n" + "0".repeat(functions) + ";";
            for (int bodies = 0; bodies <= 5; bodies++) {
                EarlyValues x = Checks.written(row + "f1,i;".repeat(bodies));
                due(functions + " functions, bodies: " + bodies, x.lay(), bodies == functions ? functions : NO);
                due("functions", x.count(0), bodies == functions ? functions : 3);
            }
        }
        due("the longest text", Checks.written(Checks.FULLEST).lay(), 4);
        Checks.alike("the longest text", Checks.told(Checks.laid(Checks.FULLEST)),
            Checks.FULLEST);
        due("a letter more", Checks.written(Checks.FULLEST + "f").lay(), NO);
        due("the full text", Checks.written(Checks.FULLEST + "o".repeat(82)).lay(), NO);
        due("the least text", Checks.written("n0;f0,o;").lay(), 1);
        due("without its last ;", Checks.written("n0;f0,o").lay(), NO);
        says(5, "how many FUNCTIONS; nothing UNDONE, KEPT; THE TEXT stays. NO.");
        EarlyValues x = new EarlyValues();
        acts(x);
        x.keep();
        Checks.write(x, "n0;f0,o;");
        due("lay", x.lay(), 1);
        due("can be undone", x.count(3), 0);
        due("undo", x.undo(), NO);
        due("kept", x.count(4), 0);
        due("back", x.back(), NO);
        due("length", x.count(5), 8);
        due("keep", x.keep(), 1);
        due("keep", x.keep(), 2);
        due("lay again", x.lay(), 1);
        due("back", x.back(), NO);
        layOverFuller();
    }

    private static void layOverFuller() {
        says(5, "what it tells, and a ; behind it");
        Checks.alike("nothing shines through from a fuller text", Seen.of(x -> {
            Checks.write(x, Checks.FULLEST);
            x.lay();
            x.rounds(0);
            x.rounds(1);
            x.rounds(2);
            x.wipe();
            Checks.write(x, "n10;f0,0a;f2,i;");
            x.lay();
        }), Seen.of(x -> {
            Checks.write(x, "n10;f0,0a;f2,i;");
            x.lay();
        }));
        EarlyValues x = Checks.laid("n10;f0,0a;f2,i;");
        x.rename(0, 1);
        due("lay again", x.lay(), 2);
        due("kind, as the text tells it", x.function(0, 0), 0);
    }

    // ---- promises 6 and 7

    private static void function() {
        says(6, "Of a FUNCTION: KIND (what = 0), how many ARGUMENTS (1), letters of its BODY (2). BAD.");
        for (int functions = 1; functions <= 4; functions++) {
            EarlyValues x = Checks.laid("n" + "0123".substring(4 - functions) + ";" + "f0,o;".repeat(functions));
            due("the first", x.function(0, 1), 4 - functions);
            due("the last", x.function(functions - 1, 1), 3);
            for (int what = 0; what < 3; what++) {
                due("behind the last, " + functions, x.function(functions, what), BAD);
                due("ahead of the first, " + functions, x.function(-1, what), BAD);
                for (int far : FAR) {
                    due("function " + far, x.function(far, what), BAD);
                }
            }
            for (int f = -1; f <= functions; f++) {
                due("what -1", x.function(f, -1), BAD);
                due("what 3", x.function(f, 3), BAD);
            }
            for (int far : FAR) {
                due("what " + far, x.function(0, far), BAD);
            }
        }
        EarlyValues x = Checks.laid("n0123;f3,o;f2,ma;f1,?aoi;f0," + "m".repeat(23) + "o;");
        int[] letters = {1, 2, 4, 24};
        for (int f = 0; f < 4; f++) {
            due("kind", x.function(f, 0), 3 - f);
            due("arguments", x.function(f, 1), f);
            due("letters", x.function(f, 2), letters[f]);
        }
    }

    private static void letter() {
        says(7, "A letter of a BODY, as in ASCII (0 first). BAD (no such one).");
        EarlyValues x = Checks.laid("n0003;f0,o;f0," + "m".repeat(23) + "i;f0,mw;f0,?+mo&iw?+0a3m1bcab;");
        Checks.alike("letters", Checks.body(x, 3), "?+mo&iw?+0a3m1bcab");
        Checks.alike("letters", Checks.body(x, 1), "m".repeat(23) + "i");
        int[] lengths = {1, 24, 2, 18};
        for (int f = 0; f < 4; f++) {
            due("ahead of the first", x.letter(f, -1), BAD);
            due("the first", x.letter(f, 0), "omm?".charAt(f));
            due("the last", x.letter(f, lengths[f] - 1), "oiwb".charAt(f));
            due("behind the last", x.letter(f, lengths[f]), BAD);
            due("place 24", x.letter(f, 24), BAD);
            for (int far : FAR) {
                due("place " + far, x.letter(f, far), BAD);
            }
        }
        for (int f : new int[] {-1, 4, Checks.LEAST, Checks.MOST}) {
            due("function " + f, x.letter(f, 0), BAD);
            due("function " + f, x.letter(f, f), BAD);
        }
        due("function 3 of 3", new EarlyValues().letter(3, 0), BAD);
        due("the greatest letter", Checks.laid("n0;f0,w;").letter(0, 0), 119);
        due("the least letter", Checks.laid("n0;f0,&oo;").letter(0, 0), 38);
    }

    public static void main(String[] args) {
        newObject();
        write();
        wipe();
        emptyAndCut();
        everySign();
        rowsOfArguments();
        functionsOfText();
        bodiesOfText();
        lay();
        function();
        letter();
        Checks.end("TextBoundaryTests", 1, 7);
    }
}
