import java.io.IOException;
import java.lang.reflect.InvocationTargetException;
import java.lang.reflect.Method;
import java.nio.file.Files;
import java.nio.file.Path;
import java.util.ArrayList;
import java.util.List;
import java.util.Map;
import java.util.TreeMap;
import java.util.TreeSet;
import java.util.regex.Matcher;
import java.util.regex.Pattern;
import java.util.stream.Stream;

/** README.md held against the class, the document's promises and the tests that there are. */
public final class ReadmeTests {
    private static final Pattern CALL = Pattern.compile("    x\\.(\\w+)\\(([^)]*)\\);\\s+// (-?\\d+): .+");
    private static final Pattern WRITTEN =
        Pattern.compile("    for \\(char letter : \"([^\"]+)\"\\.toCharArray\\(\\)\\) x\\.write\\(letter\\);");
    private static final Pattern ROW = Pattern.compile("\\| `(\\w+)\\(([^)]*)\\)` \\| (.+) \\| ([A-Z, ]*)\\|");
    private static final Pattern PROMISE =
        Pattern.compile("## Promise \\d+: (\\w+)\n\n`int \\w+\\(([^)]*)\\)`: ([^\n]*)");
    private static final List<String> REFUSALS = List.of("BAD", "NO", "FULL", "NONE");

    private static int passed = 0;
    private static int failed = 0;

    private static void holds(String what, boolean so) {
        if (so) {
            passed++;
        } else {
            failed++;
            System.out.println("not so: " + what);
        }
    }

    private static Map<String, Method> calls() {
        Map<String, Method> calls = new TreeMap<>();
        for (Method method : EarlyValues.class.getMethods()) {
            if (method.getDeclaringClass() == EarlyValues.class) {
                calls.put(method.getName(), method);
            }
        }
        return calls;
    }

    /** The lines of the example one behind the other; each must be understood, so none goes untried. */
    private static void example(String readme) throws IllegalAccessException, InvocationTargetException {
        EarlyValues x = new EarlyValues();
        int start = readme.indexOf("    EarlyValues x = new EarlyValues();\n");
        holds("there is an example", start >= 0);
        String[] lines = readme.substring(Math.max(start, 0)).split("\n\n")[0].split("\n");
        int answers = 0;
        for (int i = 1; i < lines.length; i++) {
            Matcher call = CALL.matcher(lines[i]);
            Matcher written = WRITTEN.matcher(lines[i]);
            if (call.matches()) {
                answers++;
                int got = answer(x, call.group(1), call.group(2));
                holds(lines[i] + " answers " + got, got == Integer.parseInt(call.group(3)));
            } else if (written.matches()) {
                for (char letter : written.group(1).toCharArray()) {
                    x.write(letter);
                }
            } else {
                holds("a line of the example: " + lines[i], false);
            }
        }
        holds("the example has answers: " + answers, answers >= 10);
    }

    private static int answer(EarlyValues x, String name, String told)
            throws IllegalAccessException, InvocationTargetException {
        List<Object> numbers = new ArrayList<>();
        for (String number : told.isEmpty() ? new String[0] : told.split(", ")) {
            boolean isSign = number.startsWith("'");
            numbers.add(Integer.valueOf(isSign ? number.charAt(1) : Integer.parseInt(number)));
        }
        return (Integer) calls().get(name).invoke(x, numbers.toArray());
    }

    /** Each call once, with the parameters and the refusals that its promise names. */
    private static void table(String readme, String document) {
        Map<String, String> rows = new TreeMap<>();
        Matcher row = ROW.matcher(readme);
        while (row.find()) {
            holds("one row of " + row.group(1),
                rows.put(row.group(1), "(" + row.group(2) + ") " + refusals(row.group(4))) == null);
        }
        Map<String, String> promises = new TreeMap<>();
        Matcher promise = PROMISE.matcher(document);
        while (promise.find()) {
            promises.put(promise.group(1),
                "(" + promise.group(2).replace("int ", "") + ") " + refusals(promise.group(3)));
        }
        holds("the calls are " + rows.keySet(), rows.keySet().equals(calls().keySet()));
        for (String name : promises.keySet()) {
            holds(name + " is told as " + rows.get(name) + ", promised as " + promises.get(name),
                promises.get(name).equals(rows.get(name)));
        }
        holds("promises are found: " + promises.size(), promises.size() == 23);
    }

    private static TreeSet<String> refusals(String words) {
        TreeSet<String> found = new TreeSet<>();
        for (String refusal : REFUSALS) {
            if (Pattern.compile("\\b" + refusal + "\\b").matcher(words).find()) {
                found.add(refusal);
            }
        }
        return found;
    }

    private static void constants(String readme) {
        int[] values = {EarlyValues.BAD, EarlyValues.NO, EarlyValues.FULL, EarlyValues.NONE};
        for (int i = 0; i < values.length; i++) {
            String told = "- `" + REFUSALS.get(i) + "` (" + values[i] + "): ";
            holds("it tells " + told, readme.contains(told));
        }
    }

    /** Every test and helper is named, and none that there is not. */
    private static void tests(String readme) throws IOException {
        TreeSet<String> there = new TreeSet<>();
        for (String folder : new String[] {"src/test/java", "src/test/helper"}) {
            try (Stream<Path> files = Files.list(Path.of(folder))) {
                files.map(file -> file.getFileName().toString())
                    .filter(name -> name.endsWith(".java"))
                    .forEach(name -> there.add(name.replace(".java", "")));
            }
        }
        for (String name : there) {
            holds("it names " + name, readme.contains("`" + name + "`"));
        }
        Matcher named = Pattern.compile("`(\\w+Tests)`").matcher(readme);
        while (named.find()) {
            holds(named.group(1) + " is there", there.contains(named.group(1)));
        }
        holds("it names .ci/run", readme.contains("\n    .ci/run\n") && Files.exists(Path.of(".ci/run")));
    }

    public static void main(String[] args)
            throws IOException, IllegalAccessException, InvocationTargetException {
        String readme = Files.readString(Path.of("README.md"));
        example(readme);
        table(readme, Files.readString(Path.of("../shared/DOC.md")));
        constants(readme);
        tests(readme);
        System.out.println("ReadmeTests: " + passed + " passed, " + failed + " failed");
        if (failed != 0) {
            System.exit(1);
        }
    }
}
