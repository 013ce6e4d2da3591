import java.util.function.Consumer;

/**
 * All that can be seen of an object, as one text. It is made anew for each look, as undo() and
 * back() change it, and since it answers for 512 calls only.
 */
final class Seen {
    private final StringBuilder all = new StringBuilder();

    private Seen() {
    }

    static String of(Consumer<EarlyValues> made) {
        Seen seen = new Seen();
        seen.now(made);
        seen.known(made);
        seen.rows(made);
        seen.undone(made);
        seen.keptOnes(made);
        seen.text(made);
        return seen.all.toString();
    }

    private static EarlyValues fresh(Consumer<EarlyValues> made) {
        EarlyValues x = new EarlyValues();
        made.accept(x);
        return x;
    }

    private void add(String name, int answer) {
        all.append(name).append(answer).append(' ');
    }

    private void look(EarlyValues x) {
        all.append(Checks.told(x)).append(' ');
    }

    private void now(Consumer<EarlyValues> made) {
        EarlyValues x = fresh(made);
        for (int what = 0; what < 6; what++) {
            add("count", x.count(what));
        }
        add("fault", x.fault());
        look(x);
        add("keep", x.keep());
    }

    private void known(Consumer<EarlyValues> made) {
        EarlyValues x = fresh(made);
        for (int what = 0; what < 3; what++) {
            add("rounds", x.rounds(what));
        }
        for (int f = 0; f < x.count(0); f++) {
            for (int bits = 0; bits < 8; bits++) {
                add("rough", x.rough(f, bits));
            }
            for (int what = 0; what < 4; what++) {
                add("frontier", x.frontier(f, what - 1));
                add("strict", x.strict(f, what));
                add("early", x.early(f, what));
                add("same", x.same(f, what));
                add("first", x.first(f, what));
                add("makes", x.makes(f, what));
            }
            add("never", x.first(f, 4));
        }
        for (int what = 0; what < 3; what++) {
            add("day", x.day(77, 20, what));
        }
    }

    private void rows(Consumer<EarlyValues> made) {
        int functions = fresh(made).count(0);
        for (int f = 0; f < functions; f++) {
            EarlyValues x = fresh(made);
            EarlyValues y = fresh(made);
            for (int row = 0; row < 125; row++) {
                add("v", x.value(f, row / 25, row / 5 % 5, row % 5));
            }
            for (int row = 0; row < 64; row++) {
                add("f", y.fine(f, row / 16, row / 4 % 4, row % 4));
            }
        }
    }

    private void undone(Consumer<EarlyValues> made) {
        for (int times = 1; times <= 9; times++) {
            EarlyValues x = fresh(made);
            for (int i = 0; i < times; i++) {
                add("undo", x.undo());
            }
            look(x);
        }
    }

    private void keptOnes(Consumer<EarlyValues> made) {
        for (int times = 1; times <= 3; times++) {
            EarlyValues x = fresh(made);
            for (int i = 0; i < times; i++) {
                add("back", x.back());
            }
            look(x);
            add("undo", x.undo());
            add("length", x.count(5));
        }
    }

    private void text(Consumer<EarlyValues> made) {
        EarlyValues x = fresh(made);
        add("lay", x.lay());
        look(x);
        EarlyValues y = fresh(made);
        add("write", y.write(';'));
        add("fault", y.fault());
        add("lay", y.lay());
        look(y);
        add("wipe", y.wipe());
    }
}
