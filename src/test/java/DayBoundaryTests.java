import java.math.BigInteger;

/** The boundaries that promises 18 to 24 name: same, first, makes, days, what is kept, counts. */
public final class DayBoundaryTests {
    private static final int BAD = Checks.BAD, NO = Checks.NO, FULL = Checks.FULL, NONE = Checks.NONE;
    private static final int[] FAR = {Checks.LEAST, Checks.LEAST + 1, -65536, -256, 65536, 1 << 30, Checks.MOST};

    private static void says(int promise, String words) {
        Checks.says(promise, words);
    }

    private static void due(String call, long got, long want) {
        Checks.due(call, got, want);
    }

    // ---- promise 18

    private static void same() {
        says(18, "SAME are two FUNCTIONS with as many ARGUMENTS that come to the same for each row.");
        dueSame("n00;f0,o;f0,mi;", 1);
        dueSame("n00;f0,w;f0,0;", 1);
        dueSame("n11;f0,a;f1,a;", 1);
        dueSame("n33;f0,a;f0,?iab;", 1);
        says(18, "two FUNCTIONS with as many ARGUMENTS");
        for (int f = 0; f <= 3; f++) {
            for (int g = 0; g <= 3; g++) {
                dueSame("n" + f + g + ";f0,i;f0,i;", f == g ? 1 : 0);
                dueSame("n" + f + g + ";f0,w;f0,w;", f == g ? 1 : 0);
            }
        }
        says(18, "that come to the same for each row");
        dueSame("n11;f0,?aii;f0,?aio;", 0);
        dueSame("n33;f0,?ai?bi?cio;f0,?ai?bi?cii;", 0);
        dueSame("n11;f0,i;f1,i;", 0);
        dueSame("n22;f0,i;f1,i;", 0);
        dueSame("n33;f0,i;f1,i;", 0);
        dueSame("n33;f0,&a&bc;f0,&a&b?a?b?cwocc;", 0);
        dueSame("n33;f0,&a&bo;f0,&a&b?mma?mmb?mmciooo;", 0);
        dueSame("n22;f0,&ab;f0,&a?b?abib;", 0);
        dueSame("n33;f0,b;f0,?acb;", 0);
        dueSame("n33;f0,+ab;f3,+cb;", 0);
        dueSame("n33;f1,+ab;f3,+cb;", 1);
        says(18, "`int same(int f, int g)`: SAME (1, 0). BAD.");
        EarlyValues x = Checks.laid("n0000;f0,o;f0,o;f0,o;f0,o;");
        for (int f = -1; f <= 4; f++) {
            for (int g = -1; g <= 4; g++) {
                boolean there = f >= 0 && f < 4 && g >= 0 && g < 4;
                due("same " + f + " " + g, x.same(f, g), there ? 1 : BAD);
            }
        }
        for (int far : FAR) {
            due("f " + far, x.same(far, 0), BAD);
            due("g " + far, x.same(0, far), BAD);
            due("both " + far, x.same(far, far), BAD);
        }
        due("function 3 of 3", new EarlyValues().same(2, 3), BAD);
    }

    private static void dueSame(String text, int want) {
        EarlyValues x = Checks.laid(text);
        due("same in " + text, x.same(0, 1), want);
        due("the other way round in " + text, x.same(1, 0), want);
        due("itself in " + text, x.same(0, 0), 1);
        due("itself in " + text, x.same(1, 1), 1);
    }

    // ---- promise 19

    private static void first() {
        says(19, "of all rows for which it comes to that the first (by the first ARGUMENT, then the second, ..)");
        dueFirst("n3;f0,o;", 0, NONE, NONE, NONE, NONE);
        dueFirst("n3;f0,w;", NONE, NONE, NONE, NONE, 0);
        dueFirst("n3;f0,a;", 0, 100, 200, 300, 400);
        dueFirst("n3;f0,b;", 0, 10, 20, 30, 40);
        dueFirst("n3;f0,c;", 0, 1, 2, 3, 4);
        dueFirst("n3;f0,+a+bc;", 0, 1, 2, 3, 4);
        dueFirst("n3;f1,?abc;", 0, 1, 2, 3, 4);
        dueFirst("n3;f3,?abc;", 0, 11, 21, 31, 4);
        dueFirst("n3;f0,?mma?mmb?mmciooo;", 0, 333, NONE, NONE, 334);
        dueFirst("n3;f0,?mma+bcw;", 300, 301, 302, 303, 0);
        dueFirst("n3;f0,?c?abww;", 101, 111, 121, 131, 0);
        says(19, "100 times the first, 10 times the second, and the third (0, which it has not); none");
        dueFirst("n0;f0,o;", 0, NONE, NONE, NONE, NONE);
        dueFirst("n0;f0,i;", NONE, 0, NONE, NONE, NONE);
        dueFirst("n0;f0,w;", NONE, NONE, NONE, NONE, 0);
        dueFirst("n1;f0,a;", 0, 100, 200, 300, 400);
        dueFirst("n1;f0,?aiw;", NONE, 100, NONE, NONE, 0);
        dueFirst("n2;f0,+a+bb;", 0, 100, 10, 110, 40);
        dueFirst("n2;f0,?mma?mmbiww;", NONE, 330, NONE, NONE, 0);
        says(19, "`int first(int f, int v)`: FIRST. NONE; BAD (v 0 to 4).");
        EarlyValues x = Checks.laid("n1113;f0,w;f0,w;f0,w;f0,w;");
        for (int f = -1; f <= 4; f++) {
            for (int v = -1; v <= 5; v++) {
                boolean there = f >= 0 && f < 4 && v >= 0 && v <= 4;
                due("first " + f + " " + v, x.first(f, v), !there ? BAD : v == 4 ? 0 : NONE);
            }
        }
        for (int far : FAR) {
            due("f " + far, x.first(far, 0), BAD);
            due("v " + far, x.first(0, far), BAD);
            due("both " + far, x.first(far, far), BAD);
        }
    }

    private static void dueFirst(String text, int... want) {
        EarlyValues x = Checks.laid(text);
        for (int v = 0; v <= 4; v++) {
            due("first " + v + " of " + text, x.first(0, v), want[v]);
        }
    }

    // ---- promise 20

    /** By putting each letter in turn, on a new object each time. */
    private static int madeByPuts(String text, int f, int argument) {
        EarlyValues x = Checks.laid(text);
        int bit = 1 << argument;
        if ((x.strict(f, 1) & bit) != 0) {
            return NO;
        }
        for (int place = 0; place < x.function(f, 2); place++) {
            for (char letter : Checks.ORDER.toCharArray()) {
                EarlyValues y = Checks.laid(text);
                if (y.put(f, place, letter) >= 0 && (y.strict(f, 1) & bit) != 0) {
                    return 200 * place + letter;
                }
            }
        }
        return NONE;
    }

    private static void makes() {
        says(20, "of all ways to PUT one letter of a BODY OTHERWISE by which it would FINELY be STRICT in an ARGUMENT, the first");
        String[] texts = {
            Checks.START, "n2;f0,a;", "n3;f0,?a?bcio;", "n33;f0,?a0mabco;f0,0b?oaci;", "n12;f0,1oo;f0,i;", "n1;f0,mo;",
            "n22;f0,1ab;f0,i;", "n2;f0,?oia;", "n3;f2,?m+bcc+ia;", "n3333;f0,i;f1,a;f0,?abc;f0,2i0abc2cba;",
            "n31;f0,&?ac?b1bo+i&cma;f0,?a1mai;", "n3;f3,?abc;", "n0123;f0,i;f0,i;f0,&i1b;f0,?i2ac+b1c;"
        };
        for (String text : texts) {
            EarlyValues x = Checks.laid(text);
            for (int f = 0; f < x.count(0); f++) {
                for (int argument = 0; argument < x.function(f, 1); argument++) {
                    due("makes " + f + " " + argument + " of " + text, x.makes(f, argument), madeByPuts(text, f, argument));
                }
            }
        }
        says(20, "200 times the place (0 first), and the letter as in ASCII; none");
        due("the greatest", Checks.laid("n2;f0," + "m".repeat(23) + "a;").makes(0, 1), 23 * 200 + 'w');
        due("the least", Checks.laid("n22;f0,1ab;f0,i;").makes(0, 1), '+');
        due("none", Checks.laid("n12;f0,1oo;f0,i;").makes(0, 0), NONE);
        due("none in 24 letters", Checks.laid("n12;f0,1" + "m".repeat(21) + "oo;f0,i;").makes(0, 0), NONE);
        says(20, "(by the place, then the letter, in the order o i w a b c m + & ? 0 1 2 3)");
        due("3, the last", Checks.laid("n3333;f0,i;f0,i;f0,i;f0,?iic;").makes(3, 2), '3');
        due("0 ahead of 3", Checks.laid("n3333;f1,i;f0,i;f0,i;f0,?iic;").makes(3, 2), '0');
        due("1 ahead of 3", Checks.laid("n3333;f0,i;f1,i;f0,i;f0,?iic;").makes(3, 2), '1');
        due("2 ahead of 3", Checks.laid("n3333;f0,i;f0,i;f1,i;f0,?iic;").makes(3, 2), '2');
        due("? ahead of 0", Checks.laid("n3333;f0,1abc;f0,i;f1,i;f0,i;").makes(0, 0), '?');
        due("w ahead of a", Checks.laid("n1;f0,o;").makes(0, 0), 'w');
        due("+ ahead of &", Checks.laid("n22;f0,1ba;f0,i;").makes(0, 0), '+');
        due("o, the first", Checks.laid("n2;f0,?iab;").makes(0, 1), 200 + 'o');
        makesEdges();
    }

    private static void makesEdges() {
        says(20, "`int makes(int f, int argument)`: MAKES. NONE; BAD; NO: it is so already.");
        for (int has = 0; has <= 3; has++) {
            EarlyValues strict = Checks.laid("n" + has + "3;f1,i;f0,i;");
            EarlyValues not = Checks.laid("n" + has + "3;f0,i;f0,i;");
            for (int argument = -2; argument <= 4; argument++) {
                boolean there = argument >= 0 && argument < has;
                due("already, " + argument + " of " + has, strict.makes(0, argument), there ? NO : BAD);
                due("w, " + argument + " of " + has, not.makes(0, argument), there ? 'w' : BAD);
            }
            for (int far : FAR) {
                due("argument " + far, not.makes(0, far), BAD);
                due("function " + far, not.makes(far, 0), BAD);
                due("both " + far, not.makes(far, far), BAD);
            }
            due("function -1", not.makes(-1, 0), BAD);
            due("function 2", not.makes(2, 0), BAD);
        }
        Checks.alike("nothing is put by makes", Seen.of(x -> x.makes(0, 1)), Seen.of(x -> { }));
    }

    // ---- promise 21

    private static String afterDay(String text, int z, int n) {
        StringBuilder now = new StringBuilder(text);
        for (int k = 0; k < n; k++) {
            BigInteger x = BigInteger.valueOf(7919).multiply(BigInteger.valueOf(z))
                .add(BigInteger.valueOf(6151L * k)).add(BigInteger.ONE);
            int draw = x.multiply(x).mod(BigInteger.valueOf(65521)).intValue();
            turn(now, draw);
        }
        return now.toString();
    }

    private static void turn(StringBuilder now, int draw) {
        String arguments = now.substring(1, now.indexOf(";"));
        int f = draw % arguments.length();
        int item = now.indexOf(";") + 1;
        for (int i = 0; i < f; i++) {
            item = now.indexOf(";", item) + 1;
        }
        int first = item + 3;
        int at = first + draw / 8 % (now.indexOf(";", item) - first);
        int is = now.charAt(at);
        int order = Checks.ORDER.indexOf(is);
        for (int step = 1; step <= 14; step++) {
            char next = Checks.ORDER.charAt((order + step) % 14);
            if (Checks.mayStand(arguments, f, next) && Checks.parts(arguments, next) == Checks.parts(arguments, is)) {
                now.setCharAt(at, next);
                return;
            }
        }
    }

    private static int found(String text, int what) {
        int together = 0;
        int functions = Checks.laid(text).count(0);
        for (int f = 0; f < functions; f++) {
            EarlyValues x = Checks.laid(text);
            if (what < 2) {
                together += Integer.bitCount(x.strict(f, what + 1));
            }
            for (int row = 0; what == 2 && row < 125; row++) {
                int value = x.value(f, row / 25, row / 5 % 5, row % 5);
                together += value >= 0 && value < 4 ? 1 : 0;
            }
        }
        return together;
    }

    private static void day() {
        says(21, "DRAW being (x times x) modulo 65521, x 7919 z, 6151 k and 1 together");
        String[] texts = {
            "n0000;f0,o;f0,o;f0,o;f0,o;", "n0;f0,o;", "n000;f0,i;f0,0;f0,1;", Checks.START, Checks.FULLEST,
            "n3;f2,?a?bcio;", "n31;f0,&?ac?b1bo+i&cma;f3,?a1mai;", "n0123;f0,i;f1,?a0+ii;f2,?a1b+ba;f3,?i2ac+b1c;",
            "n11;f0,mmmmmmmma;f0,0m1m0a;", "n3;f0,?abc;", "n2;f1,+a&b+0abb;"
        };
        int[] days = {0, 1, 2, 77, 4999, 9998, 9999};
        int[] times = {1, 2, 3, 19, 20};
        for (String text : texts) {
            for (int z : days) {
                for (int n : times) {
                    String then = afterDay(text, z, n);
                    for (int what = 0; what < 3; what++) {
                        due("day " + z + " " + n + " " + what + " of " + text, Checks.laid(text).day(z, n, what), found(then, what));
                    }
                }
            }
        }
        says(21, "becomes the next in that order (behind the last comes the first) that has as many PARTS and may stand there");
        due("3 becomes o", Checks.laid("n0000;f0,w;f0,3;f0,w;f0,w;").day(0, 1, 2), 1);
        due("0 of one function becomes o", Checks.laid("n0;f0,0;").day(0, 1, 2), 1);
        due("o becomes i", Checks.laid("n0;f0,o;").day(0, 1, 2), 1);
        due("i becomes w", Checks.laid("n0;f0,i;").day(0, 1, 2), 0);
        due("w becomes 0, as there is no argument", Checks.laid("n0;f0,w;").day(0, 1, 2), 0);
        due("w becomes a", Checks.laid("n1;f0,w;").day(0, 1, 2), 4);
        due("a becomes o, as there is no other", Checks.laid("n1;f0,a;").day(0, 1, 2), 5);
        due("a letter without another stays", Checks.laid("n0;f0,?ooo;").day(0, 1, 2), 1);
        due("a letter without another stays", Checks.laid("n0;f0,mo;").day(0, 1, 2), 1);
        dayEdges();
    }

    private static void dayEdges() {
        says(21, "A DAY by z (0 to 9999) of n (1 to 20) from now on");
        EarlyValues x = new EarlyValues();
        for (int what = 0; what < 3; what++) {
            for (int z : new int[] {-2, -1, 10000, 10001}) {
                due("z " + z, x.day(z, 1, what), BAD);
                due("z " + z, x.day(z, 20, what), BAD);
            }
            for (int n : new int[] {-20, -1, 0, 21, 22}) {
                due("n " + n, x.day(0, n, what), BAD);
                due("n " + n, x.day(9999, n, what), BAD);
            }
            for (int far : FAR) {
                due("z " + far, x.day(far, 1, what), BAD);
                due("n " + far, x.day(0, far, what), BAD);
                due("what " + far, x.day(0, 1, far), BAD);
                due("all " + far, x.day(far, far, far), BAD);
            }
        }
        says(21, "A DAY: FINELY (what = 0), TRULY (1), rows (2). BAD.");
        for (int what : new int[] {-2, -1, 3, 4}) {
            due("what " + what, x.day(0, 1, what), BAD);
            due("what " + what, x.day(9999, 20, what), BAD);
        }
        Checks.alike("what stands behind a day", Seen.of(y -> {
            y.rename(0, 1);
            y.keep();
            y.day(5, 20, 0);
            y.day(5, 20, 1);
            y.day(9999, 20, 2);
        }), Seen.of(y -> {
            y.rename(0, 1);
            y.keep();
        }));
        says(21, "for how many rows they do not come to NEVER, all together");
        due("all rows of the fullest", Checks.laid("n3333;f0,o;f0,o;f0,o;f0,o;").day(0, 1, 2), 500);
        due("no row", Checks.laid("n3333;f0,?www;f0,?www;f0,?www;f0,?www;").day(0, 1, 2), 0);
        says(21, "in how many ARGUMENTS FUNCTIONS are FINELY STRICT then, all together; TRULY");
        due("in all", Checks.laid("n3333;f1,o;f1,o;f1,o;f1,o;").day(0, 1, 0), 12);
        due("in all", Checks.laid("n3333;f1,o;f1,o;f1,o;f1,o;").day(0, 1, 1), 12);
        due("in none", Checks.laid("n0000;f0,o;f0,o;f0,o;f0,o;").day(9999, 20, 0), 0);
        due("in none", Checks.laid("n0000;f0,o;f0,o;f0,o;f0,o;").day(9999, 20, 1), 0);
        due("truly", Checks.laid("n33;f0,?+iiab;f0,o;").day(0, 1, 1), 1);
        due("but not finely", Checks.laid("n33;f0,?+iiab;f0,o;").day(0, 1, 0), 0);
    }

    // ---- promises 22 and 23

    private static void keep() {
        says(22, "KEPT is all as it stands, but THE TEXT (that stays by back(), behind which nothing can be UNDONE): 2 at most.");
        EarlyValues x = new EarlyValues();
        due("the first", x.keep(), 1);
        due("kept", x.count(4), 1);
        due("the second", x.keep(), 2);
        due("kept", x.count(4), 2);
        says(22, "KEPT: how many. FULL.");
        due("a third", x.keep(), FULL);
        due("a third", x.keep(), FULL);
        due("kept", x.count(4), 2);
        due("back", x.back(), 1);
        due("one more", x.keep(), 2);
        due("a third", x.keep(), FULL);
        due("back", x.back(), 1);
        due("back", x.back(), 0);
        due("back", x.back(), NO);
        due("again", x.keep(), 1);
        EarlyValues acted = new EarlyValues();
        for (int i = 1; i <= 8; i++) {
            acted.rename(0, i % 4);
        }
        due("keep behind eight acts", acted.keep(), 1);
        due("can be undone yet", acted.count(3), 8);
        for (int left = 7; left >= 0; left--) {
            due("undo", acted.undo(), left);
        }
    }

    private static void change(EarlyValues x, int i) {
        x.put(3, 23, "iwabc".charAt(i));
        x.put(0, 0, "01230".charAt(i));
        x.rename(2, (i + 1) % 4);
        x.rename(1, 3 - i % 3);
    }

    private static void back() {
        says(23, "As KEPT last (it is KEPT no more then): how many are left; nothing is UNDONE then. NO.");
        EarlyValues x = Checks.laid(Checks.FULLEST);
        due("back, nothing kept", x.back(), NO);
        change(x, 0);
        String first = Checks.told(x);
        x.keep();
        change(x, 1);
        x.keep();
        change(x, 2);
        x.keep();
        EarlyValues second = Checks.laid(Checks.FULLEST);
        change(second, 0);
        change(second, 1);
        due("length ahead", x.write('o'), 119);
        due("back", x.back(), 1);
        Checks.alike("as kept last, not as a third was to be", Checks.told(x), Checks.told(second));
        due("can be undone", x.count(3), 0);
        due("undo", x.undo(), NO);
        due("the text stays", x.count(5), 119);
        due("kept", x.count(4), 1);
        EarlyValues y = Checks.laid(Checks.FULLEST);
        change(y, 0);
        y.keep();
        change(y, 1);
        due("back", y.back(), 0);
        Checks.alike("as kept first", Checks.told(y), first);
        due("back", y.back(), NO);
        Checks.alike("as it was, behind NO", Checks.told(y), first);
        textStays();
        keptIsNoMirror();
    }

    private static void textStays() {
        says(23, "THE TEXT (that stays by back(), behind which nothing can be UNDONE)");
        EarlyValues x = new EarlyValues();
        Checks.write(x, "n0;f0,o;");
        x.keep();
        x.wipe();
        due("back behind a wipe", x.back(), 0);
        due("length", x.count(5), 0);
        due("lay", x.lay(), NO);
        x.keep();
        Checks.write(x, "n00;f0,o;f1,i;");
        due("back behind a text", x.back(), 0);
        due("length", x.count(5), 14);
        due("lay", x.lay(), 2);
        due("back behind lay", x.back(), NO);
    }

    private static void keptIsNoMirror() {
        says(23, "KEPT is all as it stands");
        EarlyValues x = new EarlyValues();
        x.keep();
        x.keep();
        x.put(0, 0, x.letter(0, 0));
        x.put(1, 0, '&');
        x.rename(0, 3);
        due("back", x.back(), 1);
        Checks.alike("acts do not change what is kept", Checks.told(x), Checks.START);
        x.put(1, 0, '2');
        due("back", x.back(), 0);
        Checks.alike("acts do not change what is kept", Checks.told(x), Checks.START);
        EarlyValues y = new EarlyValues();
        y.rename(0, 1);
        y.keep();
        y.undo();
        due("back", y.back(), 0);
        due("undo does not change what is kept", y.function(0, 0), 1);
        EarlyValues z = new EarlyValues();
        z.keep();
        z.day(77, 20, 2);
        z.makes(0, 1);
        due("back", z.back(), 0);
        Checks.alike("a day does not change what is kept", Checks.told(z), Checks.START);
    }

    // ---- promise 24

    private static void count() {
        says(24, "0 FUNCTIONS, 1 letters of all BODIES, 2 ARGUMENTS of all, 3 that can be UNDONE, 4 KEPT, 5 letters of THE TEXT. BAD.");
        dueCounts(Checks.laid("n0;f0,o;"), 1, 1, 0, 0, 0, 8);
        dueCounts(Checks.laid("n00;f0,o;f0,mo;"), 2, 3, 0, 0, 0, 15);
        dueCounts(Checks.laid("n123;f0,o;f0,mo;f0,?abc;"), 3, 7, 6, 0, 0, 24);
        dueCounts(new EarlyValues(), 3, 24, 5, 0, 0, 0);
        EarlyValues x = Checks.laid(Checks.FULLEST);
        dueCounts(x, 4, 96, 12, 0, 0, 118);
        x.keep();
        dueCounts(x, 4, 96, 12, 0, 1, 118);
        x.keep();
        for (int i = 1; i <= 9; i++) {
            x.rename(3, i % 4);
            dueCounts(x, 4, 96, 12, Math.min(i, 8), 2, 118);
        }
        Checks.write(x, "o".repeat(82));
        dueCounts(x, 4, 96, 12, 8, 2, 200);
        x.write('o');
        x.keep();
        dueCounts(x, 4, 96, 12, 8, 2, 200);
        for (int wrong : new int[] {-2, -1, 6, 7}) {
            due("count " + wrong, x.count(wrong), BAD);
        }
        for (int far : FAR) {
            due("count " + far, x.count(far), BAD);
        }
        x.wipe();
        x.back();
        dueCounts(x, 4, 96, 12, 0, 1, 0);
    }

    private static void dueCounts(EarlyValues x, int... want) {
        for (int what = 0; what < want.length; what++) {
            due("count " + what, x.count(what), want[what]);
        }
    }

    public static void main(String[] args) {
        same();
        first();
        makes();
        day();
        keep();
        back();
        count();
        Checks.end("DayBoundaryTests", 18, 24);
    }
}
