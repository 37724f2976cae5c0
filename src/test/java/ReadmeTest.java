import java.io.IOException;
import java.lang.reflect.Method;
import java.lang.reflect.Modifier;
import java.nio.file.Files;
import java.nio.file.Path;
import java.util.ArrayList;
import java.util.Arrays;
import java.util.List;
import java.util.Map;
import java.util.Set;
import java.util.TreeSet;
import java.util.regex.Matcher;
import java.util.regex.Pattern;
import java.util.stream.Stream;

/** README.md: each call on it answers as it says, and no call of the face and no test is left out. */
public final class ReadmeTest {
    private static final Due DUE = new Due("ReadmeTest");
    private static final int MOST_CALLS = 512;
    private static final String NEW = "PianoHouse p = new PianoHouse();";
    private static final Pattern CALL = Pattern.compile("p\\.(\\w+)\\((.*)\\); +// (-?\\w+)(: .+)?");
    private static final Map<String, Long> NAMED = Map.of("BAD", (long) PianoHouse.BAD, "FULL", (long) PianoHouse.FULL,
        "FINDING", (long) PianoHouse.FINDING, "STATE", (long) PianoHouse.STATE, "NONE", (long) PianoHouse.NONE);

    private final Set<String> called = new TreeSet<>();
    private PianoHouse house;
    private int calls;

    public static void main(String[] args) throws IOException, ReflectiveOperationException {
        String page = Files.readString(Path.of("README.md"));
        ReadmeTest test = new ReadmeTest();
        for (String line : javaLines(page)) test.make(line);
        test.allCalled();
        answersTold(page);
        testsTold(page);
        DUE.end();
    }

    /** All lines of the page that are marked as Java, in their order. */
    private static List<String> javaLines(String page) {
        List<String> lines = new ArrayList<>();
        Matcher part = Pattern.compile("(?s)```java\n(.*?)```").matcher(page);
        while (part.find()) lines.addAll(Arrays.asList(part.group(1).split("\n")));
        return lines;
    }

    private void make(String line) throws ReflectiveOperationException {
        if (line.equals(NEW)) {
            house = new PianoHouse();
            return;
        }
        Matcher call = CALL.matcher(line);
        DUE.holds("README.md: a call and its answer: " + line, call.matches() && house != null);
        if (!call.matches() || house == null) return;
        called.add(call.group(1));
        calls++;
        String told = call.group(3);
        long want = NAMED.containsKey(told) ? NAMED.get(told) : Long.parseLong(told);
        DUE.is("README.md: " + line, answer(call.group(1), call.group(2)), want);
    }

    private long answer(String name, String args) throws ReflectiveOperationException {
        String[] parts = args.isEmpty() ? new String[0] : args.split(", ");
        Object[] values = new Object[parts.length];
        Class<?>[] types = new Class<?>[parts.length];
        for (int i = 0; i < parts.length; i++) {
            boolean truth = parts[i].equals("true") || parts[i].equals("false");
            types[i] = truth ? boolean.class : int.class;
            values[i] = truth ? (Object) Boolean.valueOf(parts[i]) : (Object) Integer.valueOf(parts[i]);
        }
        return ((Number) PianoHouse.class.getMethod(name, types).invoke(house, values)).longValue();
    }

    private void allCalled() {
        for (Method m : PianoHouse.class.getDeclaredMethods()) {
            if (Modifier.isPublic(m.getModifiers())) {
                DUE.holds("README.md has a call of " + m.getName(), called.contains(m.getName()));
            }
        }
        DUE.holds("README.md: an object is used for " + calls + " calls", calls <= MOST_CALLS);
    }

    private static void answersTold(String page) {
        for (String name : NAMED.keySet()) {
            DUE.holds("README.md: " + name + " and its number", page.contains("| `" + name + "` | " + NAMED.get(name) + " |"));
        }
    }

    private static void testsTold(String page) throws IOException {
        Set<String> there = new TreeSet<>();
        try (Stream<Path> files = Files.list(Path.of("src/test/java"))) {
            files.map(f -> f.getFileName().toString()).filter(f -> f.endsWith("Test.java"))
                .forEach(f -> there.add(f.replace(".java", "")));
        }
        Set<String> told = new TreeSet<>();
        Matcher name = Pattern.compile("`(\\w+Test)`").matcher(page);
        while (name.find()) told.add(name.group(1));
        DUE.same("README.md: the tests", told.toString(), there.toString());
        DUE.holds("README.md: how they are run", page.contains("\n    .ci/run\n") && Files.isExecutable(Path.of(".ci/run")));
    }
}
