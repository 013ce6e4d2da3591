/** The boundaries that promises 11 to 17 name: values, roughly, finely, rounds, frontiers, strict, early. */
public final class KnownBoundaryTests {
    private static final int BAD = Checks.BAD, NONE = Checks.NONE;
    private static final int NEVER = 4;
    private static final int[] FAR = {Checks.LEAST, Checks.LEAST + 1, -65536, -256, 65536, 1 << 30, Checks.MOST};

    private static void says(int promise, String words) {
        Checks.says(promise, words);
    }

    private static void due(String call, long got, long want) {
        Checks.due(call, got, want);
    }

    private static boolean isIn(int x, int most) {
        return x >= 0 && x <= most;
    }

    // ---- promise 11

    private static void argumentsOfValue() {
        says(11, "What a FUNCTION comes to (0 to 4) for VALUES x, y, z (0 to 4; 0, if it has not such an ARGUMENT). BAD.");
        int[] tried = {Checks.LEAST, -1, 0, 1, 4, 5, Checks.MOST};
        for (int has = 0; has <= 3; has++) {
            EarlyValues x = Checks.laid("n" + has + ";f0,i;");
            for (int a : tried) {
                for (int b : tried) {
                    for (int c : tried) {
                        boolean there = isIn(a, has > 0 ? 4 : 0) && isIn(b, has > 1 ? 4 : 0) && isIn(c, has > 2 ? 4 : 0);
                        due("value of " + has + ": " + a + " " + b + " " + c, x.value(0, a, b, c), there ? 1 : BAD);
                    }
                }
            }
            EarlyValues y = Checks.laid("n" + has + ";f0,i;");
            for (int far : FAR) {
                due("function " + far, y.value(far, 0, 0, 0), BAD);
                due("x " + far, y.value(0, far, 0, 0), BAD);
                due("y " + far, y.value(0, 0, far, 0), BAD);
                due("z " + far, y.value(0, 0, 0, far), BAD);
                due("all " + far, y.value(far, far, far, far), BAD);
            }
            due("function -1", y.value(-1, 0, 0, 0), BAD);
            due("function 1", y.value(1, 0, 0, 0), BAD);
            due("x 5 is not y 1", y.value(0, 5, 0, 0), BAD);
            due("y 5 is not z 1", y.value(0, 0, 5, 0), BAD);
            due("z 5", y.value(0, 0, 0, 5), BAD);
            due("x -1 behind y 1", y.value(0, -1, 1, 0), BAD);
            due("y -1 behind z 1", y.value(0, 0, -1, 1), BAD);
        }
        EarlyValues four = Checks.laid("n0003;f0,i;f0,i;f0,i;f0,i;");
        due("function 3", four.value(3, 4, 4, 4), 1);
        due("function 4", four.value(4, 0, 0, 0), BAD);
        due("function 3 of 3", new EarlyValues().value(3, 0, 0, 0), BAD);
    }

    private static int choice(int x, int y, int z) {
        return x == NEVER ? NEVER : x == 0 ? z : y;
    }

    private static int sum(int x, int y) {
        return x == NEVER || y == NEVER ? NEVER : (x + y) % 4;
    }

    private static int less(int x) {
        return x == NEVER ? NEVER : x == 0 ? 0 : x - 1;
    }

    private static int behind(int x, int y) {
        return x == NEVER ? NEVER : y;
    }

    private static void lettersOfValue() {
        EarlyValues choice = Checks.laid("n3;f0,?abc;");
        EarlyValues sums = Checks.laid("n3;f0,+a+bc;");
        EarlyValues behinds = Checks.laid("n3;f0,&a&bc;");
        EarlyValues lesser = Checks.laid("n3;f0,&&abmc;");
        for (int row = 0; row < 125; row++) {
            int x = row / 25;
            int y = row / 5 % 5;
            int z = row % 5;
            String told = " " + x + " " + y + " " + z;
            says(11, "the third one, if the first one is 0, else the second one");
            due("?" + told, choice.value(0, x, y, z), choice(x, y, z));
            says(11, "+ two PARTS: their sum, 4 less above 3");
            due("+" + told, sums.value(0, x, y, z), sum(x, sum(y, z)));
            says(11, "& two PARTS: the second one, if the first one is not NEVER");
            due("&" + told, behinds.value(0, x, y, z), behind(x, behind(y, z)));
            says(11, "m one PART: 1 less, 0 at least");
            due("m" + told, lesser.value(0, x, y, z), behind(behind(x, y), less(z)));
        }
        says(11, "o, i 0 and 1; w NEVER");
        EarlyValues alone = Checks.laid("n000;f0,o;f0,i;f0,w;");
        due("o", alone.value(0, 0, 0, 0), 0);
        due("i", alone.value(1, 0, 0, 0), 1);
        due("w", alone.value(2, 0, 0, 0), NEVER);
        for (int place = 0; place < 3; place++) {
            says(11, "a, b, c the first, second, third ARGUMENT");
            EarlyValues x = Checks.laid("n3;f0," + "abc".charAt(place) + ";");
            for (int v = 0; v <= 4; v++) {
                due("argument " + place, x.value(0, place == 0 ? v : 3, place == 1 ? v : 3, place == 2 ? v : 3), v);
            }
        }
    }

    private static void kindsOfValue() {
        EarlyValues[] ones = new EarlyValues[4];
        EarlyValues[] choices = new EarlyValues[4];
        for (int kind = 0; kind < 4; kind++) {
            ones[kind] = Checks.laid("n3;f" + kind + ",i;");
            choices[kind] = Checks.laid("n3;f" + kind + ",?abc;");
        }
        for (int row = 0; row < 125; row++) {
            int x = row / 25;
            int y = row / 5 % 5;
            int z = row % 5;
            boolean one = x == NEVER || y == NEVER || z == NEVER;
            boolean first = x == NEVER;
            String told = " for " + x + " " + y + " " + z;
            says(11, "a PLAIN one to its BODY");
            due("plain" + told, ones[0].value(0, x, y, z), 1);
            due("plain" + told, choices[0].value(0, x, y, z), choice(x, y, z));
            says(11, "an EAGER one to NEVER, if one of them is NEVER, else as a PLAIN one");
            due("eager" + told, ones[1].value(0, x, y, z), one ? NEVER : 1);
            due("eager" + told, choices[1].value(0, x, y, z), one ? NEVER : choice(x, y, z));
            says(11, "a HALF one to NEVER, if the first is NEVER (without ARGUMENTS none is), else as a PLAIN one");
            due("half" + told, ones[2].value(0, x, y, z), first ? NEVER : 1);
            due("half" + told, choices[2].value(0, x, y, z), choice(x, y, z));
            says(11, "a TURNED one to what an EAGER one comes to for them the other way round");
            due("turned" + told, ones[3].value(0, x, y, z), one ? NEVER : 1);
            due("turned" + told, choices[3].value(0, x, y, z), one ? NEVER : choice(z, y, x));
        }
        for (int kind = 0; kind < 4; kind++) {
            says(11, "(without ARGUMENTS none is)");
            EarlyValues none = Checks.laid("n0;f" + kind + ",i;");
            due("without arguments, kind " + kind, none.value(0, 0, 0, 0), 1);
            due("roughly", none.rough(0, 0), 1);
            due("finely", none.fine(0, 0, 0, 0), 2);
        }
        says(11, "for them the other way round");
        EarlyValues two = Checks.laid("n2;f3,a;");
        EarlyValues one = Checks.laid("n1;f3,a;");
        for (int v = 0; v <= 4; v++) {
            due("of two", two.value(0, 1, v, 0), v);
            due("of one", one.value(0, v, 0, 0), v);
        }
    }

    private static void callsOfValue() {
        says(11, "all that it calls (itself, too) coming to what they did ahead of that ROUND");
        EarlyValues self = Checks.laid("n3;f0,0abc;");
        for (int row = 0; row < 125; row++) {
            due("for ever", self.value(0, row / 25, row / 5 % 5, row % 5), NEVER);
        }
        for (int kind = 0; kind < 4; kind++) {
            EarlyValues x = Checks.laid("n30;f" + kind + ",?abc;f0,0i+iiw;");
            due("a call with NEVER, kind " + kind, x.value(1, 0, 0, 0), kind == 0 || kind == 2 ? 2 : NEVER);
            EarlyValues y = Checks.laid("n30;f" + kind + ",?abc;f0,0oi+ii;");
            due("a call of kind " + kind, y.value(1, 0, 0, 0), kind == 3 ? 1 : 2);
            EarlyValues z = Checks.laid("n20;f" + kind + ",b;f0,0wi;");
            due("a call with NEVER first, kind " + kind, z.value(1, 0, 0, 0), kind == 0 ? 1 : NEVER);
        }
        EarlyValues last = Checks.laid("n3333;f0,3abc;f0,i;f0,i;f0,?abc;");
        due("a call of function 3", last.value(0, 1, 2, 3), 2);
        due("with NEVER in all", last.value(0, 4, 4, 4), NEVER);
        due("with NEVER where it is not asked", last.value(0, 0, 4, 3), 3);
    }

    // ---- promise 12

    private static void rough() {
        says(12, "ROUGHLY (0, 1), for bits of ARGUMENTS. BAD.");
        for (int has = 0; has <= 3; has++) {
            EarlyValues x = Checks.laid("n" + has + "3;f0,i;f0,w;");
            for (int bits = -2; bits <= 17; bits++) {
                due("rough of " + has + ": " + bits, x.rough(0, bits), isIn(bits, (1 << has) - 1) ? 1 : BAD);
                due("rough of w: " + bits, x.rough(1, bits), isIn(bits, 7) ? 0 : BAD);
            }
            for (int far : FAR) {
                due("bits " + far, x.rough(0, far), BAD);
                due("function " + far, x.rough(far, 0), BAD);
                due("both " + far, x.rough(far, far), BAD);
            }
            due("function -1", x.rough(-1, 0), BAD);
            due("function 2", x.rough(2, 0), BAD);
        }
        String[] bodies = {"o", "i", "w", "a", "b", "c", "ma", "+bc", "&ac", "?abc", "?cab", "?i?iabc", "m+b&ac"};
        EarlyValues[] all = new EarlyValues[bodies.length * 4];
        for (int i = 0; i < all.length; i++) {
            all[i] = Checks.laid("n3;f" + i % 4 + "," + bodies[i / 4] + ";");
        }
        for (int bits = 0; bits < 8; bits++) {
            for (int i = 0; i < all.length; i++) {
                says(12, "m as its PART; +, & 1, if both are; ? 1, if the first is and one of the others; FUNCTIONS by KINDS");
                due(bodies[i / 4] + " of kind " + i % 4 + " for " + bits, all[i].rough(0, bits), roughly(bodies[i / 4], i % 4, bits));
            }
        }
    }

    private static int roughly(String body, int kind, int bits) {
        boolean refuses = kind % 2 == 1 && bits != 7 || kind == 2 && (bits & 1) == 0;
        boolean a = (bits & 1) != 0;
        boolean b = (bits & 2) != 0;
        boolean c = (bits & 4) != 0;
        boolean is;
        switch (body) {
            case "o": case "i": is = true; break;
            case "w": is = false; break;
            case "a": case "ma": is = a; break;
            case "b": is = b; break;
            case "c": is = c; break;
            case "+bc": is = b && c; break;
            case "&ac": is = a && c; break;
            case "?abc": is = a && (b || c); break;
            case "?cab": is = c && (a || b); break;
            case "?i?iabc": is = a || b || c; break;
            default: is = a && b && c; break;
        }
        return is && !refuses ? 1 : 0;
    }

    // ---- promise 13

    private static void argumentsOfFine() {
        says(13, "FINELY (0 to 3), for x, y, z (0 to 3; 0, if it has not such an ARGUMENT). BAD.");
        int[] tried = {Checks.LEAST, -1, 0, 1, 3, 4, Checks.MOST};
        for (int has = 0; has <= 3; has++) {
            EarlyValues x = Checks.laid("n" + has + ";f0,i;");
            for (int a : tried) {
                for (int b : tried) {
                    for (int c : tried) {
                        boolean there = isIn(a, has > 0 ? 3 : 0) && isIn(b, has > 1 ? 3 : 0) && isIn(c, has > 2 ? 3 : 0);
                        due("fine of " + has + ": " + a + " " + b + " " + c, x.fine(0, a, b, c), there ? 2 : BAD);
                    }
                }
            }
            EarlyValues y = Checks.laid("n" + has + ";f0,i;");
            for (int far : FAR) {
                due("function " + far, y.fine(far, 0, 0, 0), BAD);
                due("x " + far, y.fine(0, far, 0, 0), BAD);
                due("y " + far, y.fine(0, 0, far, 0), BAD);
                due("z " + far, y.fine(0, 0, 0, far), BAD);
                due("all " + far, y.fine(far, far, far, far), BAD);
            }
            due("function -1", y.fine(-1, 0, 0, 0), BAD);
            due("function 1", y.fine(1, 0, 0, 0), BAD);
            due("x 4 is not y 1", y.fine(0, 4, 0, 0), BAD);
            due("y 4 is not z 1", y.fine(0, 0, 4, 0), BAD);
            due("x -1 behind y 1", y.fine(0, -1, 1, 0), BAD);
        }
    }

    private static void lettersOfFine() {
        int[] lesser = {0, 1, 3, 3};
        int[][] sums = {{0, 0, 0, 0}, {0, 1, 2, 3}, {0, 2, 3, 3}, {0, 3, 3, 3}};
        EarlyValues less = Checks.laid("n3;f0,&&abmc;");
        EarlyValues sum = Checks.laid("n3;f0,+a+bc;");
        EarlyValues choice = Checks.laid("n3;f0,?abc;");
        EarlyValues[] kinds = new EarlyValues[4];
        for (int kind = 0; kind < 4; kind++) {
            kinds[kind] = Checks.laid("n3;f" + kind + ",?abc;");
        }
        for (int row = 0; row < 64; row++) {
            int x = row / 16;
            int y = row / 4 % 4;
            int z = row % 4;
            String told = " " + x + " " + y + " " + z;
            says(13, "m has 1 if its PART has it, and both if that has 2");
            due("m" + told, less.fine(0, x, y, z), x == 0 || y == 0 ? 0 : lesser[z]);
            says(13, "what 0 and 0 (1), 0 and another one (2), two others (both) make, such as there may be");
            due("+" + told, sum.fine(0, x, y, z), sums[x][sums[y][z]]);
            says(13, "? the bits of the third, if the first has 1, and of the second, if the first has 2");
            int chosen = (x % 2 == 1 ? z : 0) | (x > 1 ? y : 0);
            int turned = (z % 2 == 1 ? x : 0) | (z > 1 ? y : 0);
            boolean one = x == 0 || y == 0 || z == 0;
            due("?" + told, choice.fine(0, x, y, z), chosen);
            says(13, "FUNCTIONS by KINDS. Both are found by ROUNDS as above.");
            due("plain" + told, kinds[0].fine(0, x, y, z), chosen);
            due("eager" + told, kinds[1].fine(0, x, y, z), one ? 0 : chosen);
            due("half" + told, kinds[2].fine(0, x, y, z), chosen);
            due("turned" + told, kinds[3].fine(0, x, y, z), one ? 0 : turned);
        }
        says(13, "o is 1, i 2, w 0");
        EarlyValues alone = Checks.laid("n000;f0,o;f0,i;f0,w;");
        due("o", alone.fine(0, 0, 0, 0), 1);
        due("i", alone.fine(1, 0, 0, 0), 2);
        due("w", alone.fine(2, 0, 0, 0), 0);
        due("half, the first 0", Checks.laid("n2;f2,b;").fine(0, 0, 3, 0), 0);
    }

    // ---- promise 14

    private static void rounds() {
        says(14, "till a ROUND changes nothing, which is not counted");
        dueRounds("n0;f0,w;", 0, 0, 0);
        dueRounds("n3333;f0,1abc;f0,2abc;f0,3abc;f0,0abc;", 0, 0, 0);
        dueRounds("n0;f0,o;", 1, 1, 1);
        dueRounds("n3;f3,i;", 1, 1, 1);
        says(14, "coming to what they did ahead of that ROUND");
        dueRounds("n0000;f0,1;f0,2;f0,3;f0,i;", 4, 4, 4);
        dueRounds("n0000;f0,i;f0,0;f0,1;f0,2;", 4, 4, 4);
        dueRounds("n0000;f0,i;f0,0;f0,0;f0,0;", 2, 2, 2);
        dueRounds("n1;f0,?a0mao;", 4, 1, 2);
        dueRounds("n1;f0,?a+0maio;", 4, 1, 3);
        says(14, "at first each FUNCTION comes to NEVER for each row");
        EarlyValues fullest = Checks.laid(Checks.FULLEST);
        due("the longest way: 64 steps through four functions", fullest.rounds(0), 64 * 4);
        due("its end", fullest.value(0, 3, 3, 3), 0);
        due("its end", fullest.first(0, 0), 0);
        says(14, "How many ROUNDS: of VALUES (what = 0), ROUGHLY (1), FINELY (2). BAD.");
        for (int wrong : new int[] {-2, -1, 3, 4}) {
            due("rounds " + wrong, fullest.rounds(wrong), BAD);
        }
        for (int far : FAR) {
            due("rounds " + far, fullest.rounds(far), BAD);
        }
    }

    private static void dueRounds(String text, int values, int roughly, int finely) {
        EarlyValues x = Checks.laid(text);
        due("rounds of values of " + text, x.rounds(0), values);
        due("rounds roughly of " + text, x.rounds(1), roughly);
        due("rounds finely of " + text, x.rounds(2), finely);
    }

    // ---- promise 15

    private static void frontier() {
        says(15, "FRONTIER: how many rows (k = -1), the k-th (rising). NONE: not so many; BAD (below -1).");
        dueFrontier("w");
        dueFrontier("i", 0);
        dueFrontier("a", 1);
        dueFrontier("b", 2);
        dueFrontier("c", 4);
        dueFrontier("+ab", 3);
        dueFrontier("+ac", 5);
        dueFrontier("+bc", 6);
        dueFrontier("+a+bc", 7);
        dueFrontier("?iab", 1, 2);
        dueFrontier("?iac", 1, 4);
        dueFrontier("?ibc", 2, 4);
        dueFrontier("?ia&bc", 1, 6);
        dueFrontier("?ib&ac", 2, 5);
        dueFrontier("?i&abc", 3, 4);
        dueFrontier("?abc", 3, 5);
        dueFrontier("?bac", 3, 6);
        dueFrontier("?cab", 5, 6);
        dueFrontier("?i?iabc", 1, 2, 4);
        dueFrontier("?i&a?ibc&bc", 3, 5, 6);
        EarlyValues none = Checks.laid("n00;f0,i;f0,w;");
        due("without arguments", none.frontier(0, -1), 1);
        due("without arguments", none.frontier(0, 0), 0);
        due("without arguments", none.frontier(0, 1), NONE);
        due("without arguments, never", none.frontier(1, -1), 0);
        due("without arguments, never", none.frontier(1, 0), NONE);
        says(15, "Of several the first in this order, whatever the order at a call");
        for (int wrong : new int[] {-1, 2, Checks.LEAST, Checks.MOST}) {
            due("BAD ahead of NONE, function " + wrong, none.frontier(wrong, 9), BAD);
            due("function " + wrong, none.frontier(wrong, -1), BAD);
            due("function " + wrong, none.frontier(wrong, -2), BAD);
        }
    }

    private static void dueFrontier(String body, int... rows) {
        EarlyValues x = Checks.laid("n03;f0,i;f0," + body + ";");
        due("frontier of " + body, x.frontier(1, -1), rows.length);
        for (int k = 0; k <= 9; k++) {
            due("row " + k + " of " + body, x.frontier(1, k), k < rows.length ? rows[k] : NONE);
        }
        due("the farthest row of " + body, x.frontier(1, Checks.MOST), NONE);
        due("below -1, " + body, x.frontier(1, -2), BAD);
        due("far below -1, " + body, x.frontier(1, Checks.LEAST), BAD);
    }

    // ---- promise 16

    private static void strictByKinds() {
        says(16, "ARGUMENTS (bits) in which it is STRICT: ROUGHLY (what = 0), FINELY (1), TRULY (2). BAD.");
        for (int has = 0; has <= 3; has++) {
            int all = (1 << has) - 1;
            int[] constant = {0, all, all & 1, all};
            for (int kind = 0; kind < 4; kind++) {
                EarlyValues x = Checks.laid("n" + has + "0;f" + kind + ",i;f0,w;");
                EarlyValues never = Checks.laid("n" + has + ";f" + kind + ",w;");
                for (int what = 0; what < 3; what++) {
                    String told = " by " + what + ", kind " + kind + ", arguments: " + has;
                    due("always one," + told, x.strict(0, what), constant[kind]);
                    due("never," + told, never.strict(0, what), all);
                    due("without arguments", x.strict(1, what), 0);
                    due("function -1", x.strict(-1, what), BAD);
                    due("function 2", x.strict(2, what), BAD);
                    for (int far : FAR) {
                        due("function " + far, x.strict(far, what), BAD);
                    }
                }
                for (int wrong : new int[] {-2, -1, 3, 4}) {
                    due("what " + wrong, x.strict(0, wrong), BAD);
                }
                for (int far : FAR) {
                    due("what " + far, x.strict(0, far), BAD);
                }
            }
        }
    }

    private static void strictByRows() {
        says(16, "FINELY, if it is 0 for all others 3 and that 0");
        dueStrict("?bai", 2, 2, 2);
        dueStrict("?bia", 2, 2, 2);
        dueStrict("?ba?cia", 2, 2, 2);
        dueStrict("?b?caia", 2, 2, 2);
        dueStrict("?bi?cia", 2, 2, 2);
        dueStrict("?oba", 0, 1, 1);
        dueStrict("?iba", 0, 2, 2);
        dueStrict("?oab", 0, 2, 2);
        dueStrict("?iab", 0, 1, 1);
        dueStrict("?micb", 0, 0, 2);
        dueStrict("?+iicb", 0, 0, 4);
        dueStrict("?a&bc&cb", 7, 7, 7);
        dueStrict("?ab&bc", 3, 3, 3);
        says(16, "TRULY, if it comes to NEVER for all rows in which that is NEVER");
        dueStrict("?ba?cai", 2, 2, 2);
        dueStrict("?mmb?mmciaa", 2, 2, 2);
        dueStrict("?ba?mmcia", 2, 2, 2);
        dueStrict("?mmb?caia", 2, 2, 2);
        dueStrict("?mmcia", 4, 4, 4);
        dueStrict("?cai", 4, 4, 4);
        dueStrict("?mmaib", 1, 1, 1);
        dueStrict("?mma?mmbiww", 3, 3, 3);
        dueStrict("?+a+aa?m+a+aaibb", 1, 1, 1);
        says(16, "ROUGHLY, if it is 0 for all others 1 and that 0");
        dueStrict("w", 7, 7, 7);
        dueStrict("?iw&ab", 3, 7, 7);
        dueStrict("?ow&ab", 3, 3, 3);
        dueStrict("0abc", 7, 7, 7);
        dueStrict("&c&ba", 7, 7, 7);
        dueStrict("c", 4, 4, 4);
    }

    private static void dueStrict(String body, int roughly, int finely, int truly) {
        EarlyValues x = Checks.laid("n3;f0," + body + ";");
        due("roughly, " + body, x.strict(0, 0), roughly);
        due("finely, " + body, x.strict(0, 1), finely);
        due("truly, " + body, x.strict(0, 2), truly);
    }

    // ---- promise 17

    private static void early() {
        says(17, "How many PARTS are EARLY: ROUGHLY (what = 0), FINELY (1), TRULY (2); how many PARTS of FUNCTIONS there are (3). BAD.");
        dueEarly("n33;f0,i;f0,0abc;", 0, 0, 0, 3);
        dueEarly("n33;f1,i;f0,0abc;", 3, 3, 3, 3);
        dueEarly("n33;f2,i;f0,0abc;", 1, 1, 1, 3);
        dueEarly("n33;f3,i;f0,0abc;", 3, 3, 3, 3);
        dueEarly("n33;f0,?oab;f0,0abc;", 0, 1, 1, 3);
        dueEarly("n33;f0,?+iiab;f0,0abc;", 0, 0, 1, 3);
        dueEarly("n33;f0,?abb;f0,?00abcaba0bc0abc;", 8, 8, 8, 12);
        dueEarly("n30;f0,i;f0,o;", 0, 0, 0, 0);
        dueEarly("n00;f0,i;f0,0;", 0, 0, 0, 0);
        dueEarly("n11;f0,a;f0,?o0aw;", 1, 1, 1, 1);
        says(17, "EARLY are PARTS of FUNCTIONS in a BODY that stand for an ARGUMENT in which that FUNCTION is STRICT");
        dueEarly("n11;f0,a;f0," + "0".repeat(23) + "a;", 23, 23, 23, 23);
        dueEarly("n12;f0,a;f0,0" + "1a".repeat(11) + "a;", 23, 23, 23, 23);
        dueEarly("n13;f0,a;f0,00" + "1ab".repeat(7) + "c;", 23, 23, 23, 23);
        dueEarly("n13;f0,i;f0,00" + "1ab".repeat(7) + "c;", 0, 0, 0, 23);
        dueEarly("n11;f0,i;f0," + "0".repeat(23) + "a;", 0, 0, 0, 23);
        EarlyValues x = new EarlyValues();
        for (int what = 0; what < 4; what++) {
            due("function -1", x.early(-1, what), BAD);
            due("function 3", x.early(3, what), BAD);
            for (int far : FAR) {
                due("function " + far, x.early(far, what), BAD);
            }
        }
        for (int wrong : new int[] {-2, -1, 4, 5}) {
            due("what " + wrong, x.early(0, wrong), BAD);
        }
        for (int far : FAR) {
            due("what " + far, x.early(0, far), BAD);
        }
    }

    /** Of function 1 of a text. */
    private static void dueEarly(String text, int roughly, int finely, int truly, int parts) {
        EarlyValues x = Checks.laid(text);
        int[] want = {roughly, finely, truly, parts};
        for (int what = 0; what < 4; what++) {
            due("early by " + what + " of " + text, x.early(1, what), want[what]);
        }
    }

    public static void main(String[] args) {
        argumentsOfValue();
        lettersOfValue();
        kindsOfValue();
        callsOfValue();
        rough();
        argumentsOfFine();
        lettersOfFine();
        rounds();
        frontier();
        strictByKinds();
        strictByRows();
        early();
        Checks.end("KnownBoundaryTests", 11, 17);
    }
}
