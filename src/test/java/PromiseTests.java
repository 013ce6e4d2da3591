/** Each promise by itself: ordinary inputs, the edges that the document names, wrong inputs. */
public final class PromiseTests {
    private static final int BAD = -1, NO = -2, FULL = -3, NONE = -4;
    private static final int MOST = Integer.MAX_VALUE, LEAST = Integer.MIN_VALUE;

    private static int passed = 0;
    private static int failed = 0;
    private static String promise = "";

    private static void due(String call, long got, long want) {
        if (got == want) {
            passed++;
        } else {
            failed++;
            System.out.println("promise " + promise + ": " + call + " answered " + got + ", due is " + want);
        }
    }

    private static EarlyValues written(String text) {
        EarlyValues x = new EarlyValues();
        for (int i = 0; i < text.length(); i++) {
            x.write(text.charAt(i));
        }
        return x;
    }

    private static EarlyValues laid(String text) {
        EarlyValues x = written(text);
        if (x.lay() < 0) {
            due("lay of " + text, x.lay(), 1);
        }
        return x;
    }

    private static String bodyOf(EarlyValues x, int f) {
        StringBuilder body = new StringBuilder();
        for (int place = 0; x.letter(f, place) != BAD && place < 30; place++) {
            body.append((char) x.letter(f, place));
        }
        return body.toString();
    }

    private static String all(EarlyValues x) {
        StringBuilder all = new StringBuilder();
        for (int f = 0; f < x.count(0); f++) {
            all.append('f').append(x.function(f, 0)).append(',').append(bodyOf(x, f)).append(';');
        }
        return all.toString();
    }

    private static void dueText(String call, String got, String want) {
        due(call + " \"" + got + "\" and \"" + want + "\" alike", got.equals(want) ? 1 : 0, 1);
    }

    private static void newObject() {
        EarlyValues x = new EarlyValues();
        dueText("all", all(x), "f0,?a0mabo;f0,+a?a1mao;f1,?ab2mb+ab;");
        int[] counts = {3, 24, 5, 0, 0, 0};
        for (int what = 0; what < counts.length; what++) {
            due("count " + what, x.count(what), counts[what]);
        }
        due("arguments", x.function(0, 1) * 100 + x.function(1, 1) * 10 + x.function(2, 1), 212);
        due("fault", x.fault(), NONE);
        due("undo", x.undo(), NO);
        due("back", x.back(), NO);
        EarlyValues other = new EarlyValues();
        other.rename(0, 1);
        other.write('n');
        due("kind in another object", x.function(0, 0), 0);
        due("text of another object", x.count(5), 0);
    }

    private static void write() {
        EarlyValues x = new EarlyValues();
        due("least letter", x.write(32), 1);
        due("most letter", x.write(126), 2);
        for (int letter : new int[] {31, 127, 0, -1, -32, 32 + 256, 32 + 65536, MOST, LEAST}) {
            due("write " + letter, x.write(letter), BAD);
        }
        for (int i = 3; i <= 200; i++) {
            due("write", x.write('n'), i);
        }
        due("write to a full text", x.write('n'), FULL);
        due("BAD ahead of FULL", x.write(127), BAD);
        due("length", x.count(5), 200);
        due("fault of a full text", x.fault(), 0);
        EarlyValues ordered = written("n1;f0,a;");
        due("letters one behind the other", ordered.lay(), 1);
    }

    private static void wipe() {
        EarlyValues x = written("n1;f0,a;");
        due("wipe", x.wipe(), 8);
        due("wipe again", x.wipe(), 0);
        due("length", x.count(5), 0);
        due("fault", x.fault(), NONE);
        due("functions stay", x.count(0), 3);
        due("write", x.write('x'), 1);
        due("fault of what is written then", x.fault(), 0);
        EarlyValues shorter = written("n0;f0,o;");
        shorter.wipe();
        for (char letter : "n0;f0,o".toCharArray()) {
            shorter.write(letter);
        }
        due("what was wiped is not read", shorter.fault(), 3);
        EarlyValues full = written("x".repeat(201));
        due("wipe of a full text", full.wipe(), 200);
        due("write then", full.write('n'), 1);
    }

    private static void fault() {
        String[] right = {
            "", "n0;", "n3;", "n0123;", "n0;f0,o;", "n0;f3,o;", "n1;f0,a;", "n2;f0,b;", "n3;f0,c;",
            "n00;f0,1;", "n00;f0,1;f2,0;", "n0123;f0,3owi;f1,0;f2,2ab;f3,?+a&bcma1c;",
            "n0;f0,mo;", "n0;f0,+oi;", "n0;f0,&oi;", "n0;f0,?oiw;", "n2;f0,0aa;", "n3;f0,0aaa;",
            "n0;f0," + "m".repeat(23) + "o;",
            "n3333;f3,?0abc1cba?cba;"
        };
        for (String text : right) {
            due("fault of " + text, written(text).fault(), NONE);
        }
        String[] wrong = {
            "n", "n0", "n;", "n4;", "n-;", "n01230;", "n0 ;", "x;", ";", " n0;", "f0,o;", "f0,o;n0;", "0;", "N0;",
            "n0;|n0;", "n0;f0,o;|n0;", "n0;f0,o;|f0,o;", "n0;|f4,o;", "n0;|f0o;", "n0;|f00,o;", "n0;|f,o;",
            "n0;|f0,;", "n0;|f0,a;", "n1;|f0,b;", "n2;|f0,c;", "n0;|f0,1;", "n00;|f0,2;", "n000;|f0,3;",
            "n0000;|f0,4;", "n0;|f0,oo;", "n0;|f0,m;", "n0;|f0,+o;", "n0;|f0,&o;", "n0;|f0,?oo;", "n0;|f0,mo o;",
            "n2;|f0,0a;", "n2;|f0,0aaa;", "n0;|f0,O;", "n0;| f0,o;", "n0;|;", "n0;|f0,o", "n0;|f0,", "n0;|f", "n0;f0,o;|x",
            "n0;|f9,o;f9,o;", "n0;|f0,n;", "n0;|f0,d;", "n0;|f0," + "m".repeat(24) + "o;", "n10;f0,1;|f0,a;",
            "n0;|f0;o;", "n0;|f0," + "+".repeat(24) + ";", "n0;|F0,o;", "n0;|f0,-;"
        };
        for (String marked : wrong) {
            String text = marked.replace("|", "");
            due("fault of " + text, written(text).fault(), Math.max(0, marked.indexOf('|')));
        }
        EarlyValues x = written("n0;f0,i;");
        x.fault();
        due("functions stay", x.count(0), 3);
        due("fault again", x.fault(), NONE);
    }

    private static void lay() {
        EarlyValues x = written("n10;f2,ma;");
        x.rename(0, 1);
        x.keep();
        String before = all(x);
        due("a body too few", x.lay(), NO);
        dueText("all behind NO", all(x), before);
        due("what can be undone behind NO", x.count(3), 1);
        due("kept behind NO", x.count(4), 1);
        for (char letter : "f3,i;".toCharArray()) {
            x.write(letter);
        }
        due("lay", x.lay(), 2);
        dueText("all", all(x), "f2,ma;f3,i;");
        due("argument", x.function(0, 1) * 10 + x.function(1, 1), 10);
        due("the text stays", x.count(5), 15);
        due("nothing undone", x.undo(), NO);
        due("nothing kept", x.back(), NO);
        due("value", x.value(0, 3, 0, 0), 2);
        due("lay again", x.lay(), 2);
        due("empty text", new EarlyValues().lay(), NO);
        due("no body", written("n0;").lay(), NO);
        due("fault", written("n0;f0,o;x").lay(), NO);
        due("four", written("n0123;f0,o;f0,o;f0,o;f0,o;").lay(), 4);
        EarlyValues shorter = laid("n2;f0,+ab;");
        due("value of a text", shorter.value(0, 0, 0, 0), 0);
        due("roughly", shorter.rough(0, 0), 0);
        due("finely", shorter.fine(0, 0, 0, 0), 0);
        shorter.wipe();
        for (char letter : "n0;f0,i;".toCharArray()) {
            shorter.write(letter);
        }
        shorter.lay();
        due("value of a later text", shorter.value(0, 0, 0, 0), 1);
        due("roughly", shorter.rough(0, 0), 1);
        due("finely", shorter.fine(0, 0, 0, 0), 2);
        due("letters of a later text", shorter.letter(0, 1), BAD);
    }

    private static void function() {
        EarlyValues x = laid("n301;f3,?abc;f1,i;f2,ma;");
        int[][] want = {{3, 3, 4}, {1, 0, 1}, {2, 1, 2}};
        for (int f = 0; f < 3; f++) {
            for (int what = 0; what < 3; what++) {
                due("function " + f + " " + what, x.function(f, what), want[f][what]);
            }
        }
        for (int wrong : new int[] {-1, 3, 4, MOST, LEAST}) {
            due("function " + wrong, x.function(wrong, 0), BAD);
            due("what " + wrong, x.function(0, wrong), BAD);
        }
    }

    private static void letter() {
        EarlyValues x = laid("n3123;f0,?o0abc+iw;f1,m2ao;f0,&bb;f0,1c;");
        dueText("body", bodyOf(x, 0), "?o0abc+iw");
        dueText("body", bodyOf(x, 1), "m2ao");
        due("first letter", x.letter(0, 0), '?');
        due("last letter", x.letter(0, 8), 'w');
        due("behind the last", x.letter(0, 9), BAD);
        due("behind the last of a shorter one", x.letter(3, 2), BAD);
        for (int wrong : new int[] {-1, 24, 25, MOST, LEAST}) {
            due("place " + wrong, x.letter(0, wrong), BAD);
            due("function " + wrong, x.letter(wrong, 0), BAD);
        }
    }

    private static void put() {
        EarlyValues x = laid("n212;f0,+a?b1ao;f0,ma;f0,2ab;");
        due("put & for +", x.put(0, 0, '&'), '+');
        due("a function for &", x.put(0, 0, '0'), '&');
        due("another function", x.put(0, 0, '2'), '0');
        due("m for a function", x.put(0, 4, 'm'), '1');
        due("an argument", x.put(0, 1, 'b'), 'a');
        dueText("body", bodyOf(x, 0), "2b?bmao");
        due("as it is", x.put(0, 0, '2'), NO);
        due("an argument that it has not", x.put(0, 1, 'c'), BAD);
        due("an argument that the other has not", x.put(1, 1, 'b'), BAD);
        due("other parts", x.put(0, 1, 'm'), BAD);
        due("fewer parts", x.put(0, 0, 'o'), BAD);
        due("more parts", x.put(0, 0, '?'), BAD);
        due("a function with other parts", x.put(0, 0, '1'), BAD);
        due("a function that is not", x.put(0, 0, '3'), BAD);
        for (int wrong : new int[] {-1, 7, 24, MOST, LEAST}) {
            due("place " + wrong, x.put(0, wrong, 'o'), BAD);
            due("function " + wrong, x.put(wrong, 0, '+'), BAD);
            due("letter " + wrong, x.put(0, 0, wrong), BAD);
        }
        for (int sign : new int[] {'d', 'n', ';', ',', ' ', 126, 127, 'o' + 256, 'o' + 65536, 0}) {
            due("sign " + sign, x.put(0, 1, sign), BAD);
        }
        due("acts", x.count(3), 5);
        EarlyValues y = laid("n1;f0,a;");
        due("value ahead", y.value(0, 2, 0, 0), 2);
        y.put(0, 0, 'i');
        due("value behind", y.value(0, 2, 0, 0), 1);
        due("roughly behind", y.rough(0, 0), 1);
        due("finely behind", y.fine(0, 0, 0, 0), 2);
    }

    private static void rename() {
        EarlyValues x = laid("n2;f0,a;");
        due("value ahead", x.value(0, 1, 4, 0), 1);
        due("eager", x.rename(0, 1), 0);
        due("value", x.value(0, 1, 4, 0), 4);
        due("roughly", x.rough(0, 1), 0);
        due("finely", x.fine(0, 1, 0, 0), 0);
        due("as it is", x.rename(0, 1), NO);
        due("half", x.rename(0, 2), 1);
        due("turned", x.rename(0, 3), 2);
        due("value turned", x.value(0, 1, 2, 0), 2);
        due("plain", x.rename(0, 0), 3);
        due("acts", x.count(3), 4);
        for (int wrong : new int[] {-1, 4, MOST, LEAST}) {
            due("kind " + wrong, x.rename(0, wrong), BAD);
            due("function " + wrong, x.rename(wrong, 0), BAD);
        }
        due("function that is not", x.rename(1, 0), BAD);
    }

    private static void undo() {
        EarlyValues x = new EarlyValues();
        String before = all(x);
        x.put(1, 0, '&');
        x.rename(1, 2);
        x.put(1, 0, '2');
        x.put(1, 0, '2');
        x.rename(9, 2);
        due("refusals are no acts", x.count(3), 3);
        due("value ahead", x.value(1, 2, 0, 0), 4);
        due("undo", x.undo(), 2);
        due("letter", x.letter(1, 0), '&');
        due("kind stays", x.function(1, 0), 2);
        due("undo", x.undo(), 1);
        due("kind", x.function(1, 0), 0);
        due("undo", x.undo(), 0);
        due("value", x.value(1, 2, 0, 0), 3);
        dueText("all", all(x), before);
        due("undo no more", x.undo(), NO);
        for (int i = 0; i < 11; i++) {
            x.rename(0, (i + 1) % 4);
        }
        due("the last 8", x.count(3), 8);
        for (int left = 7; left >= 0; left--) {
            due("undo", x.undo(), left);
            due("kind", x.function(0, 0), (left + 3) % 4);
        }
        due("undo no more", x.undo(), NO);
        due("as before the last 8", x.function(0, 0), 3);
    }

    private static void valueByLetters() {
        EarlyValues less = laid("n1;f0,ma;");
        int[] lesser = {0, 0, 1, 2, 4};
        EarlyValues sum = laid("n2;f0,+ab;");
        EarlyValues behind = laid("n2;f0,&ab;");
        EarlyValues choice = laid("n3;f0,?abc;");
        for (int x = 0; x < 5; x++) {
            due("m " + x, less.value(0, x, 0, 0), lesser[x]);
            for (int y = 0; y < 5; y++) {
                due("+ " + x + " " + y, sum.value(0, x, y, 0), x == 4 || y == 4 ? 4 : (x + y) % 4);
                due("& " + x + " " + y, behind.value(0, x, y, 0), x == 4 ? 4 : y);
                for (int z = 0; z < 5; z++) {
                    due("? " + x + y + z, choice.value(0, x, y, z), x == 4 ? 4 : x == 0 ? z : y);
                }
            }
        }
        EarlyValues nothing = laid("n0000;f0,o;f1,i;f2,w;f3,1;");
        due("o", nothing.value(0, 0, 0, 0), 0);
        due("i", nothing.value(1, 0, 0, 0), 1);
        due("w", nothing.value(2, 0, 0, 0), 4);
        due("turned without arguments", nothing.value(3, 0, 0, 0), 1);
        due("half without arguments", laid("n0;f2,i;").value(0, 0, 0, 0), 1);
    }

    private static void value() {
        valueByLetters();
        String[] kinds = {"n2;f0,b;", "n2;f1,b;", "n2;f2,b;", "n2;f3,b;"};
        int[][] want = {{2, 2, 4}, {2, 4, 4}, {2, 4, 4}, {1, 4, 4}};
        for (int kind = 0; kind < 4; kind++) {
            EarlyValues x = laid(kinds[kind]);
            due("kind " + kind, x.value(0, 1, 2, 0), want[kind][0]);
            due("kind, first NEVER " + kind, x.value(0, 4, 2, 0), want[kind][1]);
            due("kind, second NEVER " + kind, x.value(0, 1, 4, 0), want[kind][2]);
        }
        due("half, second NEVER", laid("n2;f2,a;").value(0, 1, 4, 0), 1);
        due("eager, second NEVER", laid("n2;f1,a;").value(0, 1, 4, 0), 4);
        due("turned, three", laid("n3;f3,?abc;").value(0, 2, 3, 1), 3);
        due("turned, three", laid("n3;f3,a;").value(0, 2, 3, 1), 1);
        due("a call asks what is needed", laid("n21;f0,a;f0,0aw;").value(1, 3, 0, 0), 3);
        due("an eager call", laid("n21;f1,a;f0,0aw;").value(1, 3, 0, 0), 4);
        due("parts in order", laid("n31;f0,?abc;f0,0oia;").value(1, 2, 0, 0), 2);
        due("itself for ever", laid("n1;f0,0a;").value(0, 1, 0, 0), 4);
        EarlyValues x = laid("n12;f0,a;f0,a;");
        due("second argument that it has not", x.value(0, 1, 1, 0), BAD);
        due("third argument that it has not", x.value(1, 1, 1, 1), BAD);
        for (int wrong : new int[] {-1, 5, MOST, LEAST}) {
            due("function " + wrong, x.value(wrong, 0, 0, 0), BAD);
            due("x " + wrong, x.value(1, wrong, 0, 0), BAD);
            due("y " + wrong, x.value(1, 0, wrong, 0), BAD);
            due("z " + wrong, x.value(1, 0, 0, wrong), BAD);
            due("z of three " + wrong, laid("n3;f0,c;").value(0, 0, 0, wrong), BAD);
        }
        due("function that is not", x.value(2, 0, 0, 0), BAD);
        due("x of none", laid("n0;f0,o;").value(0, 1, 0, 0), BAD);
    }

    private static void rough() {
        EarlyValues ops = laid("n3;f0,?abc;");
        EarlyValues sum = laid("n2;f0,+ab;");
        EarlyValues behind = laid("n2;f0,&ab;");
        for (int bits = 0; bits < 8; bits++) {
            boolean first = (bits & 1) != 0;
            due("? " + bits, ops.rough(0, bits), first && bits > 1 ? 1 : 0);
            due("+ " + bits, sum.rough(0, bits), bits > 3 ? BAD : bits == 3 ? 1 : 0);
            due("& " + bits, behind.rough(0, bits), bits > 3 ? BAD : bits == 3 ? 1 : 0);
        }
        EarlyValues rest = laid("n0001;f0,o;f0,i;f0,w;f0,ma;");
        due("o", rest.rough(0, 0), 1);
        due("i", rest.rough(1, 0), 1);
        due("w", rest.rough(2, 0), 0);
        due("m 0", rest.rough(3, 0), 0);
        due("m 1", rest.rough(3, 1), 1);
        int[][] kinds = {{0, 1, 0, 1}, {0, 0, 0, 1}, {0, 1, 0, 1}, {0, 0, 0, 1}};
        for (int kind = 0; kind < 4; kind++) {
            EarlyValues x = laid("n2;f" + kind + ",a;");
            for (int bits = 0; bits < 4; bits++) {
                due("kind " + kind + " " + bits, x.rough(0, bits), kinds[kind][bits]);
            }
        }
        due("half, b alone", laid("n2;f2,b;").rough(0, 2), 0);
        due("plain, b alone", laid("n2;f0,b;").rough(0, 2), 1);
        due("third bit", laid("n3;f0,c;").rough(0, 4), 1);
        for (int wrong : new int[] {-1, 8, MOST, LEAST}) {
            due("bits " + wrong, ops.rough(0, wrong), BAD);
            due("function " + wrong, ops.rough(wrong, 0), BAD);
        }
        due("bits of none", rest.rough(0, 1), BAD);
    }

    private static void fine() {
        int[] lesser = {0, 1, 3, 3};
        int[][] sums = {{0, 0, 0, 0}, {0, 1, 2, 3}, {0, 2, 3, 3}, {0, 3, 3, 3}};
        EarlyValues less = laid("n1;f0,ma;");
        EarlyValues sum = laid("n2;f0,+ab;");
        EarlyValues behind = laid("n2;f0,&ab;");
        EarlyValues choice = laid("n3;f0,?abc;");
        for (int x = 0; x < 4; x++) {
            due("m " + x, less.fine(0, x, 0, 0), lesser[x]);
            for (int y = 0; y < 4; y++) {
                due("+ " + x + y, sum.fine(0, x, y, 0), sums[x][y]);
                due("& " + x + y, behind.fine(0, x, y, 0), x == 0 ? 0 : y);
                for (int z = 0; z < 4; z++) {
                    int want = (x % 2 == 1 ? z : 0) | (x > 1 ? y : 0);
                    due("? " + x + y + z, choice.fine(0, x, y, z), want);
                }
            }
        }
        EarlyValues rest = laid("n000;f0,o;f1,i;f2,w;");
        due("o", rest.fine(0, 0, 0, 0), 1);
        due("i", rest.fine(1, 0, 0, 0), 2);
        due("w", rest.fine(2, 0, 0, 0), 0);
        due("eager", laid("n2;f1,a;").fine(0, 2, 0, 0), 0);
        due("half", laid("n2;f2,b;").fine(0, 0, 2, 0), 0);
        due("half, second", laid("n2;f2,a;").fine(0, 2, 0, 0), 2);
        due("turned", laid("n2;f3,a;").fine(0, 1, 2, 0), 2);
        due("by rounds", laid("n1;f0,?a0mao;").fine(0, 2, 0, 0), 1);
        EarlyValues x = laid("n12;f0,a;f0,a;");
        due("second argument that it has not", x.fine(0, 1, 1, 0), BAD);
        due("third argument that it has not", x.fine(1, 1, 1, 1), BAD);
        for (int wrong : new int[] {-1, 4, MOST, LEAST}) {
            due("function " + wrong, x.fine(wrong, 0, 0, 0), BAD);
            due("x " + wrong, x.fine(1, wrong, 0, 0), BAD);
            due("y " + wrong, x.fine(1, 0, wrong, 0), BAD);
            due("z " + wrong, x.fine(1, 0, 0, wrong), BAD);
        }
    }

    private static void rounds() {
        EarlyValues down = laid("n1;f0,?a0mao;");
        due("one value more by each round", down.rounds(0), 4);
        due("roughly", down.rounds(1), 1);
        due("finely", down.rounds(2), 2);
        EarlyValues none = laid("n0;f0,0;");
        EarlyValues late = laid("n0000;f0,1;f0,2;f0,3;f0,i;");
        EarlyValues soon = laid("n0000;f0,i;f0,0;f0,1;f0,2;");
        for (int what = 0; what < 3; what++) {
            due("none " + what, none.rounds(what), 0);
            due("calls come to what they did ahead " + what, late.rounds(what), 4);
            due("and so told the other way round " + what, soon.rounds(what), 4);
        }
        for (int wrong : new int[] {-1, 3, MOST, LEAST}) {
            due("rounds " + wrong, down.rounds(wrong), BAD);
        }
        soon.put(1, 0, 'o');
        due("behind a put", soon.rounds(0), 3);
    }

    private static void frontier() {
        EarlyValues choice = laid("n3;f0,?abc;");
        due("how many", choice.frontier(0, -1), 2);
        due("first", choice.frontier(0, 0), 3);
        due("second", choice.frontier(0, 1), 5);
        due("third", choice.frontier(0, 2), NONE);
        due("far", choice.frontier(0, MOST), NONE);
        due("below", choice.frontier(0, -2), BAD);
        due("far below", choice.frontier(0, LEAST), BAD);
        EarlyValues always = laid("n3;f0,i;");
        due("none needed, how many", always.frontier(0, -1), 1);
        due("none needed", always.frontier(0, 0), 0);
        due("none needed, second", always.frontier(0, 1), NONE);
        EarlyValues never = laid("n30;f0,w;f0,i;");
        due("never, how many", never.frontier(0, -1), 0);
        due("never", never.frontier(0, 0), NONE);
        due("without arguments, how many", never.frontier(1, -1), 1);
        due("without arguments", never.frontier(1, 0), 0);
        EarlyValues three = laid("n3;f0,?i?iabc;");
        due("each alone, how many", three.frontier(0, -1), 3);
        due("each alone", three.frontier(0, 0) * 100 + three.frontier(0, 1) * 10 + three.frontier(0, 2), 124);
        due("function -1", choice.frontier(-1, 0), BAD);
        due("function 1", choice.frontier(1, 0), BAD);
        due("BAD ahead of NONE", choice.frontier(1, 9), BAD);
    }

    private static void strict() {
        EarlyValues x = laid("n2222;f0,?oab;f0,?+iiab;f2,b;f1,i;");
        int[][] want = {{0, 2, 2}, {0, 0, 1}, {3, 3, 3}, {3, 3, 3}};
        for (int f = 0; f < 4; f++) {
            for (int what = 0; what < 3; what++) {
                due("strict " + f + " " + what, x.strict(f, what), want[f][what]);
            }
        }
        EarlyValues y = laid("n300;f0,&cb;f0,w;f0,i;");
        for (int what = 0; what < 3; what++) {
            due("second and third", y.strict(0, what), 6);
            due("without arguments", y.strict(1, what), 0);
            due("without arguments", y.strict(2, what), 0);
            due("never", laid("n3;f0,w;").strict(0, what), 7);
            due("function 3", y.strict(3, what), BAD);
            due("function -1", y.strict(-1, what), BAD);
        }
        for (int wrong : new int[] {-1, 3, MOST, LEAST}) {
            due("strict " + wrong, y.strict(0, wrong), BAD);
        }
    }

    private static void early() {
        EarlyValues x = laid("n222;f0,?oab;f0,?+iiab;f0,+0ab1ba;");
        int[] want = {0, 1, 2, 4};
        for (int what = 0; what < 4; what++) {
            due("early " + what, x.early(2, what), want[what]);
            due("no calls " + what, x.early(0, what), 0);
            due("function 3", x.early(3, what), BAD);
            due("function -1", x.early(-1, what), BAD);
        }
        due("calls in calls", laid("n2;f1,00ab0ba;").early(0, 3), 6);
        due("calls in calls, eager", laid("n2;f1,00ab0ba;").early(0, 0), 6);
        due("calls without parts", laid("n00;f0,1;f0,i;").early(0, 3), 0);
        for (int wrong : new int[] {-1, 4, MOST, LEAST}) {
            due("early " + wrong, x.early(0, wrong), BAD);
        }
    }

    private static void same() {
        EarlyValues x = laid("n1112;f0,a;f1,a;f0,ma;f0,a;");
        due("itself", x.same(2, 2), 1);
        due("otherwise told", x.same(0, 1), 1);
        due("the other way round", x.same(1, 0), 1);
        due("not", x.same(0, 2), 0);
        due("other arguments", x.same(0, 3), 0);
        due("other arguments, the other way round", x.same(3, 0), 0);
        due("but for one row", laid("n11;f0,i;f1,i;").same(0, 1), 0);
        due("without arguments", laid("n00;f0,i;f0,mi;").same(0, 1), 0);
        due("without arguments", laid("n00;f0,o;f0,mi;").same(0, 1), 1);
        for (int wrong : new int[] {-1, 4, MOST, LEAST}) {
            due("f " + wrong, x.same(wrong, 0), BAD);
            due("g " + wrong, x.same(0, wrong), BAD);
        }
    }

    private static void first() {
        EarlyValues x = laid("n3;f0,?a+bcw;");
        int[] want = {100, 101, 102, 103, 0};
        for (int v = 0; v < 5; v++) {
            due("first " + v, x.first(0, v), want[v]);
        }
        EarlyValues y = laid("n20;f0,?b?awaw;f0,o;");
        due("none", y.first(0, 1), NONE);
        due("the first argument counts most", y.first(0, 0), 10);
        EarlyValues z = laid("n2;f0,+a+bb;");
        due("by the first argument, then the second", z.first(0, 2), 10);
        due("by the first argument, then the second", z.first(0, 3), 110);
        due("never", z.first(0, 4), 40);
        due("without arguments", y.first(1, 0), 0);
        due("without arguments, none", y.first(1, 4), NONE);
        for (int wrong : new int[] {-1, 5, MOST, LEAST}) {
            due("v " + wrong, y.first(0, wrong), BAD);
            due("f " + wrong, y.first(wrong, 0), BAD);
        }
        due("function that is not", y.first(2, 0), BAD);
    }

    private static void makes() {
        EarlyValues x = new EarlyValues();
        String before = all(x);
        due("already", x.makes(0, 0), NO);
        due("place 1, i", x.makes(0, 1), 200 + 'i');
        due("argument that it has not", x.makes(0, 2), BAD);
        due("argument -1", x.makes(0, -1), BAD);
        for (int wrong : new int[] {-1, 3, MOST, LEAST}) {
            due("function " + wrong, x.makes(wrong, 0), BAD);
            due("argument " + wrong, x.makes(0, wrong), BAD);
        }
        dueText("nothing is put", all(x), before);
        due("nothing to undo", x.count(3), 0);
        due("w, the first that comes to nothing", laid("n2;f0,a;").makes(0, 1), 'w');
        due("a call of itself", laid("n1;f0,mo;").makes(0, 0), '0');
        due("none", laid("n12;f0,1oo;f0,i;").makes(0, 0), NONE);
        due("+ for &, ahead of later places", laid("n22;f0,1ab;f0,i;").makes(0, 1), '+');
        due("the first by the letter", laid("n2;f0,?oia;").makes(0, 1), 200 + 'w');
    }

    private static void day() {
        int[] rows = {1, 0, 0, 1, 1, 0, 0, 1};
        EarlyValues one = laid("n0;f0,o;");
        for (int n = 1; n <= rows.length; n++) {
            due("o i w 0 o .. by " + n, one.day(0, n, 2), rows[n - 1]);
            due("and the same by another z " + n, one.day(9999, n, 2), rows[n - 1]);
            due("strict", one.day(0, n, 0), 0);
        }
        due("nothing is put", one.letter(0, 0), 'o');
        due("nothing to undo", one.count(3), 0);
        EarlyValues two = laid("n00;f0,w;f0,o;");
        due("draw 1: function 1", two.day(0, 1, 2), 1);
        due("draw 41487: function 1", two.day(0, 2, 2), 0);
        EarlyValues place = laid("n1;f0,?aoi;");
        due("strict finely", place.day(0, 1, 0), 1);
        due("strict truly", place.day(0, 1, 1), 1);
        EarlyValues x = new EarlyValues();
        due("finely", x.day(5, 20, 0), 3);
        due("truly", x.day(5, 20, 1), 3);
        due("rows", x.day(5, 20, 2), 34);
        due("again", x.day(5, 20, 2), 34);
        due("a value behind a day", x.value(1, 2, 0, 0), 3);
        for (int wrong : new int[] {-1, 10000, MOST, LEAST}) {
            due("z " + wrong, x.day(wrong, 1, 0), BAD);
        }
        for (int wrong : new int[] {0, -1, 21, MOST, LEAST}) {
            due("n " + wrong, x.day(0, wrong, 0), BAD);
        }
        for (int wrong : new int[] {-1, 3, MOST, LEAST}) {
            due("what " + wrong, x.day(0, 1, wrong), BAD);
        }
    }

    private static void keep() {
        EarlyValues x = new EarlyValues();
        x.rename(0, 1);
        due("keep", x.keep(), 1);
        due("what can be undone stays", x.count(3), 1);
        due("undo behind keep", x.undo(), 0);
        due("keep", x.keep(), 2);
        due("keep", x.keep(), FULL);
        due("kept", x.count(4), 2);
        x.back();
        due("keep again", x.keep(), 2);
    }

    private static void back() {
        EarlyValues x = new EarlyValues();
        String first = all(x);
        x.keep();
        x.put(1, 0, '&');
        x.rename(2, 3);
        String second = all(x);
        x.keep();
        x.put(1, 0, '0');
        x.write('z');
        due("value ahead", x.value(1, 2, 0, 0), 0);
        due("back", x.back(), 1);
        dueText("as kept last", all(x), second);
        due("nothing is undone", x.undo(), NO);
        due("the text stays", x.count(5), 1);
        x.put(1, 0, '+');
        due("back", x.back(), 0);
        dueText("as kept first", all(x), first);
        due("value", x.value(1, 2, 0, 0), 3);
        due("nothing is undone", x.count(3), 0);
        due("back no more", x.back(), NO);
        dueText("as kept first", all(x), first);
        x.keep();
        x.rename(0, 2);
        due("NO leaves what can be undone", x.count(3), 1);
        x.back();
        due("kind", x.function(0, 0), 0);
    }

    private static void count() {
        EarlyValues x = laid("n0123;f0,o;f0,ma;f0,+ab;f0,?abc;");
        int[] want = {4, 10, 6, 0, 0, 32};
        x.write(' ');
        want[5] = 33;
        x.rename(0, 1);
        want[3] = 1;
        x.keep();
        x.keep();
        want[4] = 2;
        for (int what = 0; what < want.length; what++) {
            due("count " + what, x.count(what), want[what]);
        }
        for (int wrong : new int[] {-1, 6, MOST, LEAST}) {
            due("count " + wrong, x.count(wrong), BAD);
        }
    }

    public static void main(String[] args) {
        promise = "1"; newObject();
        promise = "2"; write();
        promise = "3"; wipe();
        promise = "4"; fault();
        promise = "5"; lay();
        promise = "6"; function();
        promise = "7"; letter();
        promise = "8"; put();
        promise = "9"; rename();
        promise = "10"; undo();
        promise = "11"; value();
        promise = "12"; rough();
        promise = "13"; fine();
        promise = "14"; rounds();
        promise = "15"; frontier();
        promise = "16"; strict();
        promise = "17"; early();
        promise = "18"; same();
        promise = "19"; first();
        promise = "20"; makes();
        promise = "21"; day();
        promise = "22"; keep();
        promise = "23"; back();
        promise = "24"; count();
        System.out.println("PromiseTests: " + passed + " passed, " + failed + " failed");
        if (failed != 0) {
            System.exit(1);
        }
    }
}
