import java.io.IOException;
import java.lang.management.ManagementFactory;
import java.lang.reflect.Constructor;
import java.lang.reflect.Field;
import java.lang.reflect.Method;
import java.lang.reflect.Modifier;
import java.nio.file.Files;
import java.nio.file.Path;
import java.util.List;
import java.util.Set;
import java.util.TreeSet;
import java.util.regex.Matcher;
import java.util.regex.Pattern;

/** The public face of the document, rules of LANGUAGE.md that can be read off the file, the room. */
public final class FaceTests {
    private static final String[] FACE = {
        "write(int)", "wipe()", "fault()", "lay()", "function(int,int)", "letter(int,int)",
        "put(int,int,int)", "rename(int,int)", "undo()", "value(int,int,int,int)", "rough(int,int)",
        "fine(int,int,int,int)", "rounds(int)", "frontier(int,int)", "strict(int,int)",
        "early(int,int)", "same(int,int)", "first(int,int)", "makes(int,int)", "day(int,int,int)",
        "keep()", "back()", "count(int)"
    };

    private static int passed = 0;
    private static int failed = 0;

    private static void holds(String what, boolean so) {
        if (so) {
            passed++;
        } else {
            failed++;
            System.out.println("not so: " + what);
        }
    }

    private static String told(Method method) {
        String whole = method.toString();
        return method.getName() + whole.substring(whole.indexOf('('));
    }

    private static void face() throws IllegalAccessException {
        Class<?> type = EarlyValues.class;
        holds("public and final", type.getModifiers() == (Modifier.PUBLIC | Modifier.FINAL));
        Set<String> due = new TreeSet<>(List.of(FACE));
        Set<String> names = new TreeSet<>();
        for (String call : FACE) {
            names.add(call.substring(0, call.indexOf('(')));
        }
        Set<String> found = new TreeSet<>();
        for (Method method : type.getDeclaredMethods()) {
            if (Modifier.isPrivate(method.getModifiers())) {
                holds(method + " has a name of its own", !names.contains(method.getName()));
            } else {
                holds(method + " is public and answers an int",
                    method.getModifiers() == Modifier.PUBLIC && method.getReturnType() == int.class);
                found.add(told(method));
            }
        }
        holds("the methods are " + found, found.equals(due));
        Constructor<?>[] constructors = type.getDeclaredConstructors();
        holds("one constructor", constructors.length == 1 && constructors[0].getParameterCount() == 0
            && constructors[0].getModifiers() == Modifier.PUBLIC);
        constants(type);
        for (Class<?> inside : type.getDeclaredClasses()) {
            holds(inside + " is static", Modifier.isStatic(inside.getModifiers()));
            holds(inside + " is not public", !Modifier.isPublic(inside.getModifiers()));
            fields(inside);
        }
        fields(type);
    }

    private static void constants(Class<?> type) throws IllegalAccessException {
        String all = "";
        for (Field field : type.getDeclaredFields()) {
            if (Modifier.isPublic(field.getModifiers())) {
                all += field.getName() + field.getInt(null) + " ";
            } else {
                holds(field + " is private", Modifier.isPrivate(field.getModifiers()));
            }
        }
        holds("the constants are " + all, all.equals("BAD-1 NO-2 FULL-3 NONE-4 "));
    }

    private static void fields(Class<?> type) {
        int own = 0;
        for (Field field : type.getDeclaredFields()) {
            boolean isStatic = Modifier.isStatic(field.getModifiers());
            own += isStatic ? 0 : 1;
            holds(field + " is final", !isStatic || Modifier.isFinal(field.getModifiers()));
        }
        holds(type + " has some twenty fields", own <= 20);
    }

    private static void language(String source) {
        String code = source.replaceAll("(?s)/\\*.*?\\*/", " ").replaceAll("//[^\n]*", " ")
            .replaceAll("\"(\\\\.|[^\"\\\\])*\"", "\"\"").replaceAll("'(\\\\.|[^'\\\\])'", "' '");
        for (String word : List.of("throw", "throws", "try", "catch", "finally", "synchronized", "assert",
            "package", "volatile", "native", "instanceof", "var", "yield", "protected")) {
            holds("no word " + word, !Pattern.compile("\\b" + word + "\\b").matcher(code).find());
        }
        for (String sign : List.of("->", "::", "System.out", "Math.random", "Exact(", ".toString", ".hashCode")) {
            holds("no " + sign, !code.contains(sign));
        }
        Matcher imports = Pattern.compile("import ([^;]+);").matcher(code);
        while (imports.find()) {
            holds("import " + imports.group(1), imports.group(1).equals("java.util.Arrays"));
        }
        for (char sign : source.toCharArray()) {
            if (sign > 126) {
                holds("sign " + (int) sign, false);
            }
        }
        Matcher heads = Pattern.compile("\\n( +)(?:[a-z]+ )*[A-Za-z\\[\\]]+ [a-zA-Z]+\\(([^)]*)\\) \\{\\n").matcher(code);
        int methods = 0;
        while (heads.find()) {
            methods++;
            String body = code.substring(heads.end(), code.indexOf("\n" + heads.group(1) + "}", heads.end()));
            holds("a method is short: " + heads.group(), body.split("\n", -1).length <= 60);
            holds("parameters: " + heads.group(), heads.group(2).split(",").length <= 7);
        }
        holds("methods are found: " + methods, methods > 60);
    }

    /** All calls of a run share one room, so what an object makes it makes in its constructor. */
    private static void room() {
        java.lang.management.ThreadMXBean bean = ManagementFactory.getThreadMXBean();
        if (!(bean instanceof com.sun.management.ThreadMXBean)) {
            return;
        }
        com.sun.management.ThreadMXBean counter = (com.sun.management.ThreadMXBean) bean;
        EarlyValues x = new EarlyValues();
        long id = Thread.currentThread().getId();
        allCalls(x);
        counter.getThreadAllocatedBytes(id);
        long before = counter.getThreadAllocatedBytes(id);
        for (int i = 0; i < 20; i++) {
            allCalls(x);
        }
        long made = counter.getThreadAllocatedBytes(id) - before;
        holds("calls make nothing, but made bytes: " + made, made < 1000);
        before = counter.getThreadAllocatedBytes(id);
        EarlyValues y = new EarlyValues();
        made = counter.getThreadAllocatedBytes(id) - before;
        holds("an object takes 40,000 bytes at most, but took: " + made, made < 40000 && y.count(0) == 3);
    }

    private static void allCalls(EarlyValues x) {
        String text = "n12;f0,?a1m0aao;f2,+?ab1bm0a;";
        x.wipe();
        for (int i = 0; i < text.length(); i++) {
            x.write(text.charAt(i));
        }
        x.fault();
        x.lay();
        x.keep();
        x.put(0, 6, 'i');
        x.rename(1, 3);
        x.undo();
        for (int f = -1; f < 3; f++) {
            x.function(f, 1);
            x.letter(f, 0);
            x.value(f, 3, 0, 0);
            x.rough(f, 1);
            x.fine(f, 1, 0, 0);
            x.frontier(f, -1);
            x.same(f, 0);
            for (int what = 0; what < 6; what++) {
                x.rounds(what);
                x.strict(f, what);
                x.early(f, what);
                x.first(f, what);
                x.makes(f, what);
                x.day(f, 20, what);
                x.count(what);
            }
        }
        x.back();
    }

    public static void main(String[] args) throws IOException, IllegalAccessException {
        face();
        language(Files.readString(Path.of("src/main/java/EarlyValues.java")));
        room();
        System.out.println("FaceTests: " + passed + " passed, " + failed + " failed");
        if (failed != 0) {
            System.exit(1);
        }
    }
}
