import java.lang.reflect.Method;
import java.lang.reflect.Modifier;
import java.nio.file.Files;
import java.nio.file.Path;
import java.util.ArrayList;
import java.util.List;
import java.util.TreeSet;
import java.util.regex.Matcher;
import java.util.regex.Pattern;
import java.util.stream.Stream;

/** That README.md is right: its example is answered as it says, its tables have each call, its list each test. */
public final class ReadmeHolds {
    private static final Path README = Path.of("README.md");
    private static final Path DOC = Path.of("../shared/DOC.md");
    private static final Path TESTS = Path.of("src/test/java");
    private static final Pattern CALL = Pattern.compile("w\\.(\\w+)\\(([^)]*)\\); +// (-?\\d+): .+");
    private static final Pattern ROW = Pattern.compile("\\| `(\\w+\\([^)]*\\))` \\| .+ \\|(.*)\\|");
    private static final Pattern TEST = Pattern.compile("`([A-Z]\\w+)`");
    private static int wrong = 0;

    public static void main(String[] args) throws Exception {
        List<String> lines = Files.readAllLines(README);
        int calls = example(lines);
        tables(lines);
        tests(lines);
        System.out.println(wrong == 0 ? calls + " calls of the README are answered as it says" : wrong + " faults of the README");
        if (wrong != 0) {
            System.exit(1);
        }
    }

    private static void fault(String what) {
        wrong++;
        System.out.println("README: " + what);
    }

    /** The example's calls, each with the answer that stands behind it. */
    private static int example(List<String> lines) throws Exception {
        WhichClub w = new WhichClub();
        int calls = 0;
        int first = lines.indexOf("```java");
        for (int i = first + 2; first >= 0 && i < lines.size() && !lines.get(i).equals("```"); i++) {
            Matcher call = CALL.matcher(lines.get(i));
            if (!call.matches()) {
                fault("no call with its answer: " + lines.get(i));
                continue;
            }
            calls++;
            long got = answer(w, call.group(1), call.group(2));
            if (got != Long.parseLong(call.group(3))) {
                fault(lines.get(i) + " was answered " + got);
            }
        }
        if (calls == 0) {
            fault("there is no example");
        }
        return calls;
    }

    private static long answer(WhichClub w, String name, String numbers) throws Exception {
        for (Method m : WhichClub.class.getDeclaredMethods()) {
            if (m.getName().equals(name) && Modifier.isPublic(m.getModifiers())) {
                Object[] with = Stream.of(numbers.split(", ")).filter(s -> !s.isEmpty()).map(Integer::valueOf).toArray();
                return ((Number) m.invoke(w, with)).longValue();
            }
        }
        throw new IllegalArgumentException("no such call: " + name);
    }

    /** Each call of the document's face stands in a table once, with its numbers named as there. */
    private static void tables(List<String> lines) throws Exception {
        List<String> told = new ArrayList<>();
        for (String line : lines) {
            Matcher row = ROW.matcher(line);
            if (row.matches()) {
                told.add(row.group(1));
            }
        }
        List<String> due = new ArrayList<>();
        for (String line : Files.readAllLines(DOC)) {
            Matcher method = Pattern.compile("    public (?:int|long) (\\w+)\\((.*)\\);").matcher(line);
            if (method.matches()) {
                due.add(method.group(1) + "(" + method.group(2).replaceAll("(int|long) ", "") + ")");
            }
        }
        if (due.size() != 37 || !told.equals(due)) {
            fault("its tables have " + told + ", due are " + due);
        }
    }

    /** Each test stands in the list, and each one in the list is there. */
    private static void tests(List<String> lines) throws Exception {
        TreeSet<String> told = new TreeSet<>();
        boolean isList = false;
        for (String line : lines) {
            isList = line.startsWith("## ") ? line.equals("## How to run the tests") : isList;
            Matcher test = TEST.matcher(line);
            while (isList && line.startsWith("- ") && test.find()) {
                told.add(test.group(1));
            }
        }
        TreeSet<String> due = new TreeSet<>();
        try (Stream<Path> files = Files.list(TESTS)) {
            files.forEach(f -> due.add(f.getFileName().toString().replace(".java", "")));
        }
        if (!told.equals(due)) {
            fault("its list has " + told + ", due are " + due);
        }
    }
}
