import java.util.function.Consumer;

/** The boundaries that promises 8 to 10 name: letters put otherwise, kinds changed, undone. */
public final class ActBoundaryTests {
    private static final int BAD = Checks.BAD, NO = Checks.NO;
    private static final int[] FAR = {Checks.LEAST, Checks.LEAST + 1, -65536, -256, 65536, 1 << 30, Checks.MOST};

    private static void says(int promise, String words) {
        Checks.says(promise, words);
    }

    private static void due(String call, long got, long want) {
        Checks.due(call, got, want);
    }

    // ---- promise 8

    /** Each sign to each place: what may be put there is told by the test's own table. */
    private static void putEverywhere(String text) {
        String arguments = text.substring(1, text.indexOf(';'));
        for (int f = 0; f < arguments.length(); f++) {
            int length = Checks.laid(text).function(f, 2);
            for (int place = 0; place < length; place++) {
                EarlyValues x = Checks.laid(text);
                int is = x.letter(f, place);
                for (int sign = -1; sign <= 128; sign++) {
                    boolean fits = Checks.mayStand(arguments, f, sign)
                        && Checks.parts(arguments, sign) == Checks.parts(arguments, is);
                    String call = "put " + f + " " + place + " " + sign + " in " + text;
                    due(call, x.put(f, place, sign), !fits ? BAD : sign == is ? NO : is);
                    due("letter behind " + call, x.letter(f, place), fits ? sign : is);
                    if (fits && sign != is) {
                        x.undo();
                    }
                }
            }
        }
    }

    private static void putOtherwise() {
        says(8, "A letter of a BODY may be PUT OTHERWISE: by one that has as many PARTS (and may stand there)");
        String[] texts = {
            "n0;f0,?+mo&iw0;", "n3;f0,?+ma&bc0oiw;", "n10;f0,?a+m0o&i1w;f0,?o+mi&w1;",
            "n312;f0,?c+mb&a1o;f0,?a+1m2oi&w0;f0,0abo;", "n0123;f0,?o+mi&w0;f0,1ma;f0,2+a&bo;f0,3a?bco;"
        };
        for (String text : texts) {
            putEverywhere(closed(text));
        }
        putEverywhere("n0;f0,o;");
        putEverywhere("n3333;f0,a;f0,b;f0,c;f0,3abc;");
        putEverywhere("n2222;f0,+ab;f0,&ab;f0,0ab;f0,3ab;");
        putEverywhere("n1111;f0,ma;f0,0a;f0,1a;f0,3a;");
        putEverywhere("n0000;f0,o;f0,i;f0,0;f0,3;");
        putEverywhere("n00;f0,m1;f0,?+0i&mwoi;");
    }

    /** Bodies that lack parts get letters o behind them, those that have too many lose some. */
    private static String closed(String text) {
        String arguments = text.substring(1, text.indexOf(';'));
        StringBuilder right = new StringBuilder(text.substring(0, text.indexOf(';') + 1));
        for (String item : text.substring(text.indexOf(';') + 1).split(";")) {
            int open = 1;
            for (int i = 3; i < item.length() && open > 0; i++) {
                open += Checks.parts(arguments, item.charAt(i)) - 1;
                if (open == 0) {
                    item = item.substring(0, i + 1);
                }
            }
            right.append(item).append("o".repeat(open)).append(';');
        }
        return right.toString();
    }

    private static void putEdges() {
        says(8, "PUT OTHERWISE: the letter that it was, as in ASCII. BAD (it may not stand there, too); NO: it is so.");
        EarlyValues x = Checks.laid("n3001;f0,?abc;f0," + "m".repeat(23) + "o;f0,i;f0,m3a;");
        int[] lengths = {4, 24, 1, 3};
        for (int f = 0; f < 4; f++) {
            int last = lengths[f] - 1;
            due("the last place", x.put(f, last, f == 2 ? 'o' : 'i'), f == 2 ? 'i' : f == 0 ? 'c' : f == 1 ? 'o' : 'a');
            due("behind the last place", x.put(f, last + 1, 'o'), BAD);
            due("ahead of the first place", x.put(f, -1, 'o'), BAD);
            due("place 24", x.put(f, 24, 'o'), BAD);
            for (int far : FAR) {
                due("place " + far, x.put(f, far, 'o'), BAD);
                due("letter " + far, x.put(f, last, far), BAD);
                due("function " + far, x.put(far, last, 'o'), BAD);
            }
        }
        due("function -1", x.put(-1, 0, '?'), BAD);
        due("function 4", x.put(4, 0, '?'), BAD);
        due("acts", x.count(3), 4);
        for (int letter : new int[] {'o' + 256, 'o' - 256, 'o' + 65536, 'o' | 1 << 31, 0, 31, 127, 128, 255}) {
            due("letter " + letter, x.put(2, 0, letter), BAD);
        }
        due("put to what it is", x.put(2, 0, 'o'), NO);
        due("put a call to itself to what it is", x.put(3, 1, '3'), NO);
        due("acts", x.count(3), 4);
        due("function 3 of 3", new EarlyValues().put(3, 0, '?'), BAD);
        due("the call of function 3 of 3", new EarlyValues().put(2, 0, '3'), BAD);
    }

    // ---- promise 9

    private static void rename() {
        says(9, "It is of another KIND: which it was. BAD; NO: it is.");
        for (int from = 0; from <= 3; from++) {
            for (int to = 0; to <= 3; to++) {
                EarlyValues x = Checks.laid("n2222;" + ("f" + from + ",+ab;").repeat(4));
                for (int f = 0; f < 4; f++) {
                    due("rename " + from + " to " + to, x.rename(f, to), from == to ? NO : from);
                    due("kind", x.function(f, 0), to);
                    due("acts", x.count(3), from == to ? 0 : f + 1);
                }
                for (int wrong : new int[] {-2, -1, 4, 5, '0', 256, 65536}) {
                    due("kind " + wrong, x.rename(0, wrong), BAD);
                }
                for (int far : FAR) {
                    due("kind " + far, x.rename(3, far), BAD);
                    due("function " + far, x.rename(far, to), BAD);
                }
                due("function -1", x.rename(-1, to), BAD);
                due("function 4", x.rename(4, to), BAD);
                due("kind", x.function(3, 0), to);
            }
        }
        due("function 3 of 3", new EarlyValues().rename(3, 1), BAD);
        due("function 1 of 1", Checks.laid("n0;f0,o;").rename(1, 1), BAD);
    }

    // ---- promise 10

    /** Twelve acts, of both sorts, on all functions; each leaves another text. */
    private static void act(EarlyValues x, int i) {
        switch (i % 6) {
            case 0: x.put(0, 0, i < 6 ? 'i' : 'w'); break;
            case 1: x.rename(0, i < 6 ? 1 : 3); break;
            case 2: x.put(3, 23, i < 6 ? 'i' : 'w'); break;
            case 3: x.rename(3, i < 6 ? 2 : 1); break;
            case 4: x.put(1, 0, i < 6 ? '&' : '2'); break;
            default: x.put(3, 0, i < 6 ? '3' : 'm'); break;
        }
    }

    private static final String BEFORE = "n0221;f0,o;f0,+ab;f0,2ba;f0," + "m".repeat(23) + "o;";

    private static void undo() {
        says(10, "UNDONE are the latest of these (the last 8 can be).");
        for (int acts = 0; acts <= 12; acts++) {
            EarlyValues x = Checks.laid(BEFORE);
            String[] told = new String[13];
            for (int i = 0; i < acts; i++) {
                told[i] = Checks.told(fresh(i));
                act(x, i);
                due("can be undone behind act " + i, x.count(3), Math.min(i + 1, 8));
            }
            int can = Math.min(acts, 8);
            for (int left = can - 1; left >= 0; left--) {
                due("undo of " + acts, x.undo(), left);
                due("can be", x.count(3), left);
            }
            Checks.alike("behind all undone of " + acts, Checks.told(x),
                can == 0 ? BEFORE : told[acts - can]);
            says(10, "UNDONE: how many more can be. NO.");
            due("no more", x.undo(), NO);
            due("no more", x.undo(), NO);
            due("can be", x.count(3), 0);
        }
        says(10, "UNDONE are the latest of these (the last 8 can be).");
        for (int undone = 0; undone <= 8; undone++) {
            EarlyValues x = fresh(12);
            for (int i = 0; i < undone; i++) {
                x.undo();
            }
            Checks.alike("undone of twelve: " + undone, Checks.told(x), Checks.told(fresh(12 - undone)));
        }
    }

    private static EarlyValues fresh(int acts) {
        EarlyValues x = Checks.laid(BEFORE);
        for (int i = 0; i < acts; i++) {
            act(x, i);
        }
        return x;
    }

    private static void undoneThenActs() {
        says(10, "UNDONE are the latest of these");
        EarlyValues x = fresh(8);
        due("undo", x.undo(), 7);
        due("undo", x.undo(), 6);
        due("an act behind", x.rename(2, 3), 0);
        due("can be", x.count(3), 7);
        due("another one", x.rename(2, 2), 3);
        due("the ninth but two", x.rename(2, 1), 2);
        due("can be", x.count(3), 8);
        for (int left = 7; left >= 0; left--) {
            due("undo", x.undo(), left);
        }
        Checks.alike("but for the first act", Checks.told(x), Checks.told(fresh(1)));
        EarlyValues y = Checks.laid("n1;f0,a;");
        for (int i = 0; i < 9; i++) {
            due("put", y.put(0, 0, i % 2 == 0 ? 'o' : 'a'), i % 2 == 0 ? 'a' : 'o');
        }
        for (int left = 7; left >= 0; left--) {
            due("undo", y.undo(), left);
            due("letter", y.letter(0, 0), left % 2 == 0 ? 'o' : 'a');
        }
        due("the first of nine stays", y.letter(0, 0), 'o');
    }

    private static void refusedIsNoAct() {
        says(10, "nothing changes then");
        EarlyValues x = fresh(8);
        for (int i = 0; i < 20; i++) {
            x.put(0, 0, 'z');
            x.put(0, 0, x.letter(0, 0));
            x.rename(0, 4);
            x.rename(0, x.function(0, 0));
        }
        due("can be", x.count(3), 8);
        for (int left = 7; left >= 0; left--) {
            due("undo", x.undo(), left);
        }
        Checks.alike("the oldest of eight was not pushed out", Checks.told(x), BEFORE);
        says(10, "nothing UNDONE, KEPT; THE TEXT stays");
        EarlyValues y = fresh(8);
        y.lay();
        due("undo behind lay", y.undo(), NO);
        due("can be", y.count(3), 0);
        y.rename(0, 3);
        due("undo", y.undo(), 0);
        EarlyValues z = fresh(8);
        z.write('x');
        due("lay", z.lay(), NO);
        due("undo behind a refused lay", z.undo(), 7);
    }

    // ---- what changes is found anew

    private static String finds(EarlyValues x) {
        StringBuilder all = new StringBuilder();
        for (int row = 0; row < 25; row++) {
            all.append(x.value(0, row / 5, row % 5, 0)).append(x.value(1, row / 5, row % 5, 0)).append(' ');
        }
        for (int row = 0; row < 16; row++) {
            all.append(x.fine(0, row / 4, row % 4, 0)).append(x.fine(1, row / 4, row % 4, 0)).append(' ');
        }
        for (int what = 0; what < 4; what++) {
            all.append(x.rough(0, what)).append(' ').append(x.rounds(what)).append(' ');
            all.append(x.strict(0, what)).append(' ').append(x.early(0, what)).append(' ');
            all.append(x.first(0, what)).append(' ').append(x.makes(0, what)).append(' ');
        }
        return all.append(x.same(0, 1)).append(x.day(5, 3, 2)).toString();
    }

    private static void dueAnew(int promise, String words, Consumer<EarlyValues> change) {
        says(promise, words);
        EarlyValues looked = Checks.laid("n22;f0,?a0mabi;f0,+ba;");
        looked.keep();
        looked.rename(0, 1);
        String ahead = finds(looked);
        change.accept(looked);
        EarlyValues other = Checks.laid("n22;f0,?a0mabi;f0,+ba;");
        other.keep();
        other.rename(0, 1);
        change.accept(other);
        Checks.alike("what is found behind a look and a change", finds(looked), finds(other));
        Checks.due("the change is one that is found", finds(looked).equals(ahead) ? 1 : 0, 0);
        Checks.alike("and on a new object", finds(looked), finds(Checks.laid(Checks.told(looked))));
    }

    private static void foundAnew() {
        dueAnew(8, "A letter of a BODY may be PUT OTHERWISE", x -> x.put(0, 6, 'o'));
        dueAnew(8, "A letter of a BODY may be PUT OTHERWISE", x -> x.put(1, 0, '0'));
        dueAnew(9, "a FUNCTION be of another KIND", x -> x.rename(0, 0));
        dueAnew(9, "a FUNCTION be of another KIND", x -> x.rename(0, 3));
        dueAnew(10, "UNDONE are the latest of these", EarlyValues::undo);
        dueAnew(10, "behind which nothing can be UNDONE", EarlyValues::back);
        dueAnew(10, "nothing UNDONE, KEPT; THE TEXT stays", EarlyValues::lay);
        dueAnew(10, "nothing UNDONE, KEPT; THE TEXT stays", x -> {
            x.wipe();
            Checks.write(x, "n12;f0,+aa;f0,?a0mbo;");
            x.lay();
        });
    }

    public static void main(String[] args) {
        putOtherwise();
        putEdges();
        rename();
        undo();
        undoneThenActs();
        refusedIsNoAct();
        foundAnew();
        Checks.end("ActBoundaryTests", 8, 10);
    }
}
