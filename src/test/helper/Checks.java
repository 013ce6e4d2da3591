import java.io.IOException;
import java.nio.file.Files;
import java.nio.file.Path;
import java.util.TreeMap;
import java.util.Map;

/** What the boundary tests share: the sentence that a check stands for, texts, and answers compared. */
final class Checks {
    static final int BAD = -1, NO = -2, FULL = -3, NONE = -4;
    static final int MOST = Integer.MAX_VALUE, LEAST = Integer.MIN_VALUE;
    static final String START = "n212;f0,?a0mabo;f0,+a?a1mao;f1,?ab2mb+ab;";
    static final String ORDER = "oiwabcm+&?0123";

    /** Four functions of three arguments and 24 letters each: the longest text that has no fault. */
    static final String FULLEST = "n3333;f0,?c1ab+ci?b1a+bii?a1maiio;f0," + "&i".repeat(10) + "2abc;f0,"
        + "&i".repeat(10) + "3abc;f0," + "&i".repeat(10) + "0abc;";

    private static final Map<Integer, Integer> named = new TreeMap<>();
    private static final String document = readDocument();
    private static String sentence = "";
    private static int passed = 0;
    private static int failed = 0;

    private Checks() {
    }

    private static String readDocument() {
        try {
            return flat(Files.readString(Path.of("../shared/DOC.md")));
        } catch (IOException e) {
            System.out.println("no ../shared/DOC.md here: sentences are not looked up");
            return null;
        }
    }

    private static String flat(String words) {
        return words.replaceAll("\\s+", " ");
    }

    /** The checks behind this stand for a sentence, which must be the document's own words. */
    static void says(int promise, String words) {
        sentence = "promise " + promise + ", \"" + words + "\"";
        named.merge(promise, 1, Integer::sum);
        if (document != null && !document.contains(flat(words))) {
            fail("the document does not say so");
        }
    }

    static void due(String call, long got, long want) {
        if (got == want) {
            passed++;
        } else {
            fail(call + " answered " + got + ", due is " + want);
        }
    }

    static void alike(String what, String got, String want) {
        if (got.equals(want)) {
            passed++;
        } else {
            fail(what + " is " + got + ", due is " + want);
        }
    }

    private static void fail(String how) {
        failed++;
        if (failed <= 40) {
            System.out.println(sentence + ": " + how);
        }
    }

    /** Ends the tests; each of some promises must have been named. */
    static void end(String tests, int firstPromise, int lastPromise) {
        for (int promise = firstPromise; promise <= lastPromise; promise++) {
            if (!named.containsKey(promise)) {
                fail("no check names promise " + promise);
            }
        }
        System.out.println(tests + ": " + passed + " passed, " + failed + " failed");
        if (failed != 0) {
            System.exit(1);
        }
    }

    static void write(EarlyValues x, String text) {
        for (int i = 0; i < text.length(); i++) {
            x.write(text.charAt(i));
        }
    }

    static EarlyValues written(String text) {
        EarlyValues x = new EarlyValues();
        write(x, text);
        return x;
    }

    static EarlyValues laid(String text) {
        EarlyValues x = written(text);
        int functions = x.lay();
        if (functions < 1) {
            fail("lay of " + text + " answered " + functions);
        }
        return x;
    }

    static String body(EarlyValues x, int f) {
        StringBuilder body = new StringBuilder();
        int length = x.function(f, 2);
        for (int place = 0; place < length; place++) {
            body.append((char) x.letter(f, place));
        }
        return body.toString();
    }

    /** All functions as a text tells them. */
    static String told(EarlyValues x) {
        StringBuilder all = new StringBuilder("n");
        int functions = x.count(0);
        for (int f = 0; f < functions; f++) {
            all.append(x.function(f, 1));
        }
        for (int f = 0; f < functions; f++) {
            all.append(";f").append(x.function(f, 0)).append(',').append(body(x, f));
        }
        return all.append(';').toString();
    }

    /** How many parts a letter has, by a row of how many arguments functions have; -1: it is none. */
    static int parts(String arguments, int sign) {
        switch (sign) {
            case 'o': case 'i': case 'w': case 'a': case 'b': case 'c': return 0;
            case 'm': return 1;
            case '+': case '&': return 2;
            case '?': return 3;
            default: break;
        }
        boolean isCall = sign >= '0' && sign < '0' + arguments.length();
        return isCall ? arguments.charAt(sign - '0') - '0' : -1;
    }

    static boolean mayStand(String arguments, int f, int sign) {
        boolean isArgument = sign >= 'a' && sign <= 'c';
        return parts(arguments, sign) >= 0 && (!isArgument || sign - 'a' < arguments.charAt(f) - '0');
    }
}
