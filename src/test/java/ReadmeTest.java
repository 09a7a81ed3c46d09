import java.io.File;
import java.io.IOException;
import java.lang.reflect.Method;
import java.lang.reflect.Modifier;
import java.net.URL;
import java.net.URLClassLoader;
import java.nio.file.Files;
import java.nio.file.Path;
import java.util.ArrayList;
import java.util.List;
import java.util.Map;
import java.util.TreeMap;
import java.util.TreeSet;
import java.util.function.Supplier;
import java.util.regex.Matcher;
import java.util.regex.Pattern;

/**
 * README.md: its examples are compiled as they stand, one behind the other, and answer what their comments say; its
 * tables have each call once; the refusals that they tell of a call are those that the class gives, no more and no
 * fewer. Its argument: the file.
 */
public final class ReadmeTest extends Checks {
    /** A call in an example, alone in its line, and the answer that its comment begins with. */
    private static final Pattern EXAMPLE = Pattern.compile("\\s*(x\\.(\\w+)\\(.*\\)); +// (-?\\d+)(: .*)?");
    /** The row of a call in a table: the call, what it answers, its refusals. */
    private static final Pattern ROW = Pattern.compile("\\| `(\\w+)\\(([^)]*)\\)` \\| (.+) \\| (.+) \\|");
    private static final Pattern REFUSAL = Pattern.compile("(?<![\\w-])-\\d+");

    public static void main(String[] args) throws Exception {
        List<String> lines = Files.readAllLines(Path.of(args.length > 0 ? args[0] : "README.md"));
        examplesAreRight(examples(lines));
        tablesHaveEachCall(lines);
        end("readme");
    }

    private static List<Method> calls() {
        List<Method> calls = new ArrayList<>();
        for (Method m : EveryonesThirdWord.class.getDeclaredMethods()) {
            if (Modifier.isPublic(m.getModifiers())) calls.add(m);
        }
        return calls;
    }

    // ==== the examples

    private static List<String> examples(List<String> lines) {
        List<String> code = new ArrayList<>();
        boolean in = false;
        for (String line : lines) {
            if (line.startsWith("```")) in = line.equals("```java");
            else if (in) code.add(line);
        }
        return code;
    }

    private static void examplesAreRight(List<String> code) throws Exception {
        about("README.md: what it shows as an example is right");
        StringBuilder text = new StringBuilder("public final class Shown {\n");
        text.append("    public static void run(java.util.List<String> calls, java.util.List<Long> answers) {\n");
        List<String> due = new ArrayList<>();
        TreeSet<String> shown = new TreeSet<>();
        for (String line : code) {
            Matcher m = EXAMPLE.matcher(line);
            if (m.matches()) {
                due.add(m.group(1) + " answers " + m.group(3));
                shown.add(m.group(2));
                text.append("calls.add(\"").append(m.group(1).replace("\"", "\\\"")).append("\");\n");
                text.append("answers.add((long) ").append(m.group(1)).append(");\n");
            } else {
                isTrue("without an answer: " + line, !line.contains("x.") || line.startsWith("for "));
                text.append(line).append('\n');
            }
        }
        text.append("    }\n}\n");
        List<String> calls = new ArrayList<>();
        List<Long> answers = new ArrayList<>();
        run(text.toString(), calls, answers);
        is("how many examples", calls.size(), due.size());
        for (int i = 0; i < calls.size() && i < due.size(); i++) {
            String got = calls.get(i) + " answers " + answers.get(i);
            isTrue(due.get(i) + " (" + got + ")", got.equals(due.get(i)));
        }
        for (Method m : calls()) isTrue("an example of " + m.getName(), shown.contains(m.getName()));
    }

    /** Compiles the class Shown and lets it run. */
    private static void run(String text, List<String> calls, List<Long> answers) throws Exception {
        Path room = Files.createTempDirectory("readme");
        try {
            Path file = room.resolve("Shown.java");
            Files.writeString(file, text);
            int wrong = new ProcessBuilder("javac", "-encoding", "UTF-8", "-cp", System.getProperty("java.class.path"),
                "-d", room.toString(), file.toString()).inheritIO().start().waitFor();
            is("compiling the examples", wrong, 0);
            if (wrong != 0) return;
            try (URLClassLoader loader = new URLClassLoader(new URL[] {room.toUri().toURL()})) {
                loader.loadClass("Shown").getMethod("run", List.class, List.class).invoke(null, calls, answers);
            }
        } finally {
            clear(room.toFile());
        }
    }

    private static void clear(File room) throws IOException {
        File[] files = room.listFiles();
        if (files != null) for (File f : files) Files.delete(f.toPath());
        Files.delete(room.toPath());
    }

    // ==== the tables

    private static void tablesHaveEachCall(List<String> lines) throws Exception {
        about("README.md has each kind of call, what it answers, and what a refused call answers");
        Map<String, Matcher> rows = new TreeMap<>();
        for (String line : lines) {
            Matcher m = ROW.matcher(line);
            if (m.matches()) isTrue("one row of " + m.group(1), rows.put(m.group(1), m) == null);
        }
        List<Method> calls = calls();
        is("as many rows as calls", rows.size(), calls.size());
        for (Method call : calls) {
            Matcher row = rows.get(call.getName());
            isTrue("a row of " + call.getName(), row != null);
            if (row == null) continue;
            int arguments = row.group(2).isEmpty() ? 0 : row.group(2).split(", ").length;
            is("arguments of " + call.getName(), arguments, call.getParameterCount());
            isTrue(call.getName() + " is refused with " + row.group(4) + ", and really with " + refusals(call),
                told(row.group(4)).equals(refusals(call)));
        }
    }

    private static TreeSet<Long> told(String cell) {
        TreeSet<Long> told = new TreeSet<>();
        if (cell.equals("never")) return told;
        Matcher m = REFUSAL.matcher(cell);
        while (m.find()) told.add(Long.parseLong(m.group()));
        isTrue("refusals in " + cell, !told.isEmpty());
        return told;
    }

    /** The answers of a call that are counted as refusals, over mixtures of arguments and some objects. */
    private static TreeSet<Long> refusals(Method call) throws Exception {
        TreeSet<Long> refusals = new TreeSet<>();
        int[] few = {-2, -1, 0, 1, 2, 3, 5, 8};
        int[] many = {-2, -1, 0, 1, 2, 3, 5, 8, 10, 31, 61, 161, 2000};
        int[] edges = call.getParameterCount() > 3 ? few : many;
        List<Supplier<EveryonesThirdWord>> objects = List.of(EveryonesThirdWord::new, () -> some(3), () -> some(8));
        for (Supplier<EveryonesThirdWord> of : objects) {
            int[] at = new int[call.getParameterCount()];
            do {
                EveryonesThirdWord x = of.get();
                long before = refused(x);
                long answer = ((Number) call.invoke(x, arguments(call, at, edges))).longValue();
                if (refused(x) != before) refusals.add(answer);
            } while (next(at, edges.length));
        }
        return refusals;
    }

    private static boolean next(int[] at, int end) {
        for (int i = 0; i < at.length; i++) {
            at[i]++;
            if (at[i] < end) return true;
            at[i] = 0;
        }
        return false;
    }

    private static Object[] arguments(Method call, int[] at, int[] edges) {
        Object[] arguments = new Object[at.length];
        for (int i = 0; i < at.length; i++) {
            Class<?> type = call.getParameterTypes()[i];
            int v = edges[at[i]];
            if (type == boolean.class) arguments[i] = v > 0;
            else if (type == long.class) arguments[i] = (long) v;
            else arguments[i] = v;
        }
        return arguments;
    }

    private static long refused(EveryonesThirdWord x) {
        long some = 0;
        for (int what = 11; what <= 17; what++) some += x.status(what);
        return some;
    }

    /**
     * So many courtiers; in shelf 0 a courtier, in 1 nothing, in 2 a row of words, in 3 one of no words, in 5 a short
     * one of another sort.
     */
    private static EveryonesThirdWord some(int men) {
        EveryonesThirdWord x = new EveryonesThirdWord();
        for (int i = 0; i < men; i++) x.man(COURTIER, i, 0);
        x.show(0, 0);
        x.row(2, INTS, 8);
        x.row(3, INTS, 40);
        for (int i = 0; i < 40; i++) x.set(3, i, 40 + i);
        x.row(5, BYTES, 2);
        x.say(2, 5);
        return x;
    }
}
