import java.util.ArrayList;
import java.util.List;
import java.util.function.Consumer;
import java.util.function.ToIntFunction;

/**
 * Nothing changes with a refused call, whatever stands; nor with one that only asks. And an object
 * answers as it should for 512 calls.
 */
public final class RefusalTests {
    private static final int BAD = Checks.BAD, NO = Checks.NO, FULL = Checks.FULL, NONE = Checks.NONE;
    private static final int[] ODD = {Checks.LEAST, -65536, -3, -2, -1, 4, 5, 6, 24, 127, 10000, 65536, Checks.MOST};

    record Call(String told, ToIntFunction<EarlyValues> made, int due) { }

    private static void says(int promise, String words) {
        Checks.says(promise, words);
    }

    // ---- how things may stand

    private static void fullest(EarlyValues x) {
        Checks.write(x, Checks.FULLEST);
        x.lay();
        x.rename(1, 1);
        x.keep();
        x.put(0, 23, 'i');
        x.keep();
        for (int i = 0; i < 9; i++) {
            x.rename(2, (i + 1) % 4);
        }
        x.put(3, 0, '+');
        Checks.write(x, "o".repeat(82));
    }

    private static void least(EarlyValues x) {
        Checks.write(x, "n0;f0,o;");
        x.lay();
        x.wipe();
    }

    private static void middle(EarlyValues x) {
        Checks.write(x, "n0321;f0,i;f2,?abc;f3,?a&b0i;f1,1amaa;");
        x.lay();
        x.put(1, 1, 'b');
        x.keep();
        x.put(2, 0, '1');
        x.rename(0, 3);
        x.put(3, 1, 'o');
        x.wipe();
        Checks.write(x, "n01;f0,i;f1,");
    }

    private static List<Consumer<EarlyValues>> states() {
        return List.of(x -> { }, RefusalTests::least, RefusalTests::middle, RefusalTests::fullest);
    }

    private static EarlyValues fresh(Consumer<EarlyValues> made) {
        EarlyValues x = new EarlyValues();
        made.accept(x);
        return x;
    }

    private static void statesAreSo() {
        says(24, "How many: 0 FUNCTIONS, 1 letters of all BODIES, 2 ARGUMENTS of all, 3 that can be UNDONE, 4 KEPT");
        int[][] want = {{3, 24, 5, 0, 0, 0}, {1, 1, 0, 0, 0, 0}, {4, 16, 6, 4, 1, 12}, {4, 96, 12, 8, 2, 200}};
        for (int i = 0; i < want.length; i++) {
            for (int what = 0; what < 6; what++) {
                Checks.due("count " + what + " of state " + i, fresh(states().get(i)).count(what), want[i][what]);
            }
        }
    }

    // ---- refused calls

    /** Some rows of calls by promise, of those with an odd number such as are refused for it. */
    private static List<Call> refused(int promise, EarlyValues like) {
        List<Call> calls = new ArrayList<>();
        int functions = like.count(0);
        for (int odd : ODD) {
            boolean noFunction = odd < 0 || odd >= functions;
            for (int f = 0; f < functions; f++) {
                oddNumbers(promise, calls, like, f, odd);
            }
            if (noFunction) {
                oddFunctions(promise, calls, odd);
            }
        }
        return calls;
    }

    private static void add(List<Call> calls, String told, ToIntFunction<EarlyValues> made) {
        calls.add(new Call(told, made, BAD));
    }

    private static void oddFunctions(int promise, List<Call> calls, int f) {
        switch (promise) {
            case 6: add(calls, "function " + f, x -> x.function(f, 0)); break;
            case 7: add(calls, "letter " + f, x -> x.letter(f, 0)); break;
            case 8: add(calls, "put " + f, x -> x.put(f, 0, 'o')); break;
            case 9: add(calls, "rename " + f, x -> x.rename(f, 3)); break;
            case 11: add(calls, "value " + f, x -> x.value(f, 0, 0, 0)); break;
            case 12: add(calls, "rough " + f, x -> x.rough(f, 0)); break;
            case 13: add(calls, "fine " + f, x -> x.fine(f, 0, 0, 0)); break;
            case 15: add(calls, "frontier " + f, x -> x.frontier(f, 0)); break;
            case 16: add(calls, "strict " + f, x -> x.strict(f, 0)); break;
            case 17: add(calls, "early " + f, x -> x.early(f, 0)); break;
            case 18: add(calls, "same " + f, x -> x.same(f, 0)); add(calls, "same 0 " + f, x -> x.same(0, f)); break;
            case 19: add(calls, "first " + f, x -> x.first(f, 0)); break;
            case 20: add(calls, "makes " + f, x -> x.makes(f, 0)); break;
            default: break;
        }
    }

    private static void oddNumbers(int promise, List<Call> calls, EarlyValues like, int f, int odd) {
        String told = " " + f + " " + odd;
        int arguments = like.function(f, 1);
        int letters = like.function(f, 2);
        boolean below = odd < 0;
        if (promise == 6 && (below || odd > 2)) {
            add(calls, "function" + told, x -> x.function(f, odd));
        } else if (promise == 7 && (below || odd >= letters)) {
            add(calls, "letter" + told, x -> x.letter(f, odd));
        } else if (promise == 8) {
            add(calls, "put of sign" + told, x -> x.put(f, 0, odd));
            if (below || odd >= letters) {
                add(calls, "put at" + told, x -> x.put(f, odd, 'o'));
            }
        } else if (promise == 9 && (below || odd > 3)) {
            add(calls, "rename" + told, x -> x.rename(f, odd));
        } else if (promise == 11 && (below || odd > 4)) {
            add(calls, "value x" + told, x -> x.value(f, odd, 0, 0));
            add(calls, "value y" + told, x -> x.value(f, 0, odd, 0));
            add(calls, "value z" + told, x -> x.value(f, 0, 0, odd));
        } else if (promise == 12 && (below || odd >= 1 << arguments)) {
            add(calls, "rough" + told, x -> x.rough(f, odd));
        } else if (promise == 13 && (below || odd > 3)) {
            add(calls, "fine x" + told, x -> x.fine(f, odd, 0, 0));
            add(calls, "fine y" + told, x -> x.fine(f, 0, odd, 0));
            add(calls, "fine z" + told, x -> x.fine(f, 0, 0, odd));
        } else if (promise == 15 && odd < -1) {
            add(calls, "frontier" + told, x -> x.frontier(f, odd));
        } else if (promise == 16 && (below || odd > 2)) {
            add(calls, "strict" + told, x -> x.strict(f, odd));
        } else if (promise == 17 && (below || odd > 3)) {
            add(calls, "early" + told, x -> x.early(f, odd));
        } else if (promise == 19 && (below || odd > 4)) {
            add(calls, "first" + told, x -> x.first(f, odd));
        } else if (promise == 20 && (below || odd >= arguments)) {
            add(calls, "makes" + told, x -> x.makes(f, odd));
        }
    }

    /** Those that are refused for a number that stands for no function. */
    private static List<Call> refusedPlainly(int promise) {
        List<Call> calls = new ArrayList<>();
        for (int odd : ODD) {
            boolean below = odd < 0;
            if (promise == 2 && (odd < 32 || odd > 126)) {
                add(calls, "write " + odd, x -> x.write(odd));
            } else if (promise == 14 && (below || odd > 2)) {
                add(calls, "rounds " + odd, x -> x.rounds(odd));
            } else if (promise == 21) {
                dayBy(calls, odd);
            } else if (promise == 24 && (below || odd > 5)) {
                add(calls, "count " + odd, x -> x.count(odd));
            }
        }
        return calls;
    }

    private static void dayBy(List<Call> calls, int odd) {
        if (odd < 0 || odd > 9999) {
            add(calls, "day z " + odd, x -> x.day(odd, 1, 0));
        }
        if (odd < 1 || odd > 20) {
            add(calls, "day n " + odd, x -> x.day(0, odd, 1));
        }
        if (odd < 0 || odd > 2) {
            add(calls, "day what " + odd, x -> x.day(9999, 20, odd));
        }
    }

    private static void refusedNumbers() {
        for (Consumer<EarlyValues> state : states()) {
            String before = Seen.of(state);
            for (int promise = 2; promise <= 24; promise++) {
                List<Call> calls = refused(promise, fresh(state));
                calls.addAll(refusedPlainly(promise));
                says(promise, "BAD: a number is none that is told (FUNCTIONS, ARGUMENTS: such as there are).");
                for (int from = 0; from < calls.size(); from += 50) {
                    List<Call> some = calls.subList(from, Math.min(from + 50, calls.size()));
                    EarlyValues x = fresh(state);
                    for (Call call : some) {
                        Checks.due(call.told(), call.made().applyAsInt(x), call.due());
                    }
                    says(promise, "nothing changes then");
                    dueUnchanged(state, before, some);
                    says(promise, "BAD: a number is none that is told (FUNCTIONS, ARGUMENTS: such as there are).");
                }
            }
        }
    }

    private static void dueUnchanged(Consumer<EarlyValues> state, String before, List<Call> calls) {
        String told = calls.isEmpty() ? "" : calls.get(0).told();
        Checks.alike("all that is seen behind " + told + " and " + calls.size() + " such calls", Seen.of(x -> {
            state.accept(x);
            for (Call call : calls) {
                call.made().applyAsInt(x);
            }
        }), before);
    }

    private static void dueRefused(int promise, Consumer<EarlyValues> state, Call call) {
        says(promise, "NO: not as things stand. NONE: there is none. FULL.");
        EarlyValues x = fresh(state);
        Checks.due(call.told(), call.made().applyAsInt(x), call.due());
        Checks.due(call.told() + " again", call.made().applyAsInt(x), call.due());
        says(promise, "nothing changes then");
        dueUnchanged(state, Seen.of(state), List.of(call, call));
    }

    private static void refusedAsThingsStand() {
        Call lay = new Call("lay", EarlyValues::lay, NO);
        dueRefused(2, RefusalTests::fullest, new Call("write", x -> x.write(';'), FULL));
        dueRefused(4, RefusalTests::least, new Call("fault", EarlyValues::fault, NONE));
        dueRefused(5, RefusalTests::fullest, lay);
        dueRefused(5, RefusalTests::middle, lay);
        dueRefused(5, RefusalTests::least, lay);
        dueRefused(5, x -> acted(x, "n00;f0,i;"), lay);
        dueRefused(5, x -> acted(x, "n00;f0,i;f3,o"), lay);
        dueRefused(5, x -> acted(x, "n0;f0,i;f3,o;"), lay);
        dueRefused(5, x -> acted(x, "n0;f0,i;n0;"), lay);
        dueRefused(8, RefusalTests::fullest, new Call("put to what it is", x -> x.put(0, 23, 'i'), NO));
        dueRefused(8, RefusalTests::middle, new Call("put to what it is", x -> x.put(3, 1, 'o'), NO));
        dueRefused(9, RefusalTests::middle, new Call("rename to what it is", x -> x.rename(0, 3), NO));
        dueRefused(9, RefusalTests::fullest, new Call("rename to what it is", x -> x.rename(1, 1), NO));
        dueRefused(10, RefusalTests::least, new Call("undo", EarlyValues::undo, NO));
        dueRefused(10, x -> { x.keep(); x.rename(0, 1); x.back(); x.keep(); }, new Call("undo", EarlyValues::undo, NO));
        dueRefused(15, RefusalTests::middle, new Call("frontier", x -> x.frontier(0, 1), NONE));
        dueRefused(19, RefusalTests::middle, new Call("first", x -> x.first(0, 3), NONE));
        dueRefused(20, RefusalTests::middle, new Call("makes", x -> x.makes(3, 0), NO));
        dueRefused(20, x -> acted(x, "n"), new Call("makes", x -> x.makes(0, 0), NO));
        dueRefused(22, RefusalTests::fullest, new Call("keep", EarlyValues::keep, FULL));
        dueRefused(23, RefusalTests::least, new Call("back", EarlyValues::back, NO));
        dueRefused(23, x -> { x.rename(0, 1); x.put(1, 0, '&'); x.write('n'); }, new Call("back", EarlyValues::back, NO));
    }

    private static void acted(EarlyValues x, String text) {
        x.rename(0, 2);
        x.keep();
        x.put(1, 0, '&');
        Checks.write(x, text);
    }

    // ---- calls that only ask

    private static void askingChangesNothing() {
        says(1, "Nothing is promised beyond the answers and state changes described above");
        for (Consumer<EarlyValues> state : states()) {
            Checks.alike("all that is seen behind calls that only ask", Seen.of(x -> {
                state.accept(x);
                ask(x);
            }), Seen.of(state));
        }
    }

    private static void ask(EarlyValues x) {
        x.fault();
        int functions = x.count(0);
        for (int f = 0; f < functions; f++) {
            x.makes(f, 0);
            x.strict(f, f % 3);
            x.early(f, f % 4);
            x.frontier(f, f - 1);
            x.first(f, f);
            x.same(f, 0);
            x.rough(f, 0);
            x.fine(f, 0, 0, 0);
            x.value(f, 0, 0, 0);
            x.rounds(f % 3);
            x.day(5000 + f, 20, f % 3);
        }
    }

    // ---- 512 calls

    private static void fiveHundredAndTwelve() {
        says(5, "An object is used for at most 512 calls after it has been made");
        EarlyValues x = new EarlyValues();
        Checks.write(x, Checks.FULLEST);
        Checks.due("call 119: lay", x.lay(), 4);
        for (int call = 120; call <= 505; call++) {
            Checks.due("call " + call, x.rename(call % 4, (call / 4 - 29) % 4), (call / 4 - 30) % 4);
        }
        Checks.due("call 506: can be undone", x.count(3), 8);
        Checks.due("call 507: keep", x.keep(), 1);
        Checks.due("call 508: keep", x.keep(), 2);
        Checks.due("call 509: undo", x.undo(), 7);
        Checks.due("call 510: wipe", x.wipe(), 118);
        Checks.due("call 511: back", x.back(), 1);
        Checks.due("call 512: kind", x.function(1, 0), (505 / 4 - 29) % 4);
        says(2, "what later calls answer is free");
        for (int call = 513; call <= 2000; call++) {
            x.write('o');
            x.put(call % 5, call % 25, Checks.ORDER.charAt(call % 14));
            x.rename(call % 5, call % 3);
            x.keep();
            x.day(call, 1 + call % 20, call % 3);
        }
        Checks.due("and nothing is ever thrown", 0, 0);
    }

    public static void main(String[] args) {
        statesAreSo();
        refusedNumbers();
        refusedAsThingsStand();
        askingChangesNothing();
        fiveHundredAndTwelve();
        Checks.end("RefusalTests", 1, 24);
    }
}
