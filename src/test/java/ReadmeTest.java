import java.io.IOException;
import java.lang.reflect.InvocationTargetException;
import java.lang.reflect.Method;
import java.lang.reflect.Modifier;
import java.nio.file.Files;
import java.nio.file.Path;
import java.util.ArrayList;
import java.util.List;
import java.util.NoSuchElementException;
import java.util.TreeSet;
import java.util.regex.Matcher;
import java.util.regex.Pattern;
import java.util.stream.Collectors;
import java.util.stream.Stream;

/** README.md says what is so: its examples answer as told, and no call or test is left out. */
public final class ReadmeTest {
    private static final String NEW_OBJECT = "FinalLinks x = new FinalLinks();";
    private static final Pattern PUT = Pattern.compile("put\\(x, \"(.*)\"\\);");
    private static final Pattern CALL = Pattern.compile(
            "x\\.(\\w+)\\(([-0-9, ]*)\\);\\s+// (-?\\d+|true|false|throws): .*");
    private static final Pattern ROW = Pattern.compile("\\| `(\\w+)\\(([^)]*)\\)` \\|(.*)\\|");

    private ReadmeTest() {
    }

    public static void main(String[] args) throws IOException, ReflectiveOperationException {
        List<String> page = Files.readAllLines(Path.of("README.md"));
        List<List<String>> codes = codesOf(page);
        Check.due("codes of the page", codes.size(), 4);
        putIsAsToldThere(codes.get(0));
        int examples = 0;
        for (List<String> code : codes.subList(1, codes.size())) {
            examples += runExample(code);
        }
        Check.due("some examples were run", examples > 40, true);
        callsAreTold(page);
        throwingCallsAreTold(page);
        testsAreTold(String.join("\n", page));
        Check.finish("ReadmeTest");
    }

    private static List<List<String>> codesOf(List<String> page) {
        List<List<String>> codes = new ArrayList<>();
        List<String> open = null;
        for (String line : page) {
            if (line.equals("```java")) {
                open = new ArrayList<>();
                codes.add(open);
            } else if (line.equals("```")) {
                open = null;
            } else if (open != null) {
                open.add(line);
            }
        }
        return codes;
    }

    static boolean put(FinalLinks x, String text) {
        x.end(0);
        for (int at = 0; at < text.length(); at += 20) {
            int[] n = new int[5];
            for (int i = 0; i < 20; i++) {
                int sign = at + i < text.length() ? text.charAt(at + i) & 255 : 0;
                n[i / 4] = n[i / 4] << 8 | sign;
            }
            if (x.feed(n[0], n[1], n[2], n[3], n[4]) == FinalLinks.NONE) {
                return false;
            }
        }
        return x.end(text.length());
    }

    /** The examples are run by the method above, so it must be the one of the page. */
    private static void putIsAsToldThere(List<String> code) throws IOException {
        String own = Files.readString(Path.of("src/test/java/ReadmeTest.java"));
        String told = code.stream().map(line -> "    " + line).collect(Collectors.joining("\n"));
        Check.due("put() is as the page tells it", own.contains("\n" + told + "\n"), true);
        FinalLinks x = new FinalLinks();
        Check.due("put() of the most", put(x, Texts.blanks(940)), true);
        Check.due("put() of one more", put(x, Texts.blanks(941)), false);
        Check.due("put() of none", put(x, ""), true);
        Check.due("bytes behind put() of none", x.count(4), 0);
    }

    /** How many calls of an example were compared; each of its lines must be one that is known. */
    private static int runExample(List<String> code) throws ReflectiveOperationException {
        FinalLinks x = new FinalLinks();
        int compared = 0;
        for (String line : code) {
            Matcher text = PUT.matcher(line);
            Matcher call = CALL.matcher(line);
            if (line.equals(NEW_OBJECT)) {
                x = new FinalLinks();
            } else if (text.matches()) {
                Check.due(line, put(x, text.group(1)), true);
            } else if (call.matches()) {
                Check.due(line, answer(x, call.group(1), call.group(2)), told(call.group(3)));
                compared++;
            } else {
                Check.due("a line that can be run: " + line, false, true);
            }
        }
        return compared;
    }

    private static long told(String answer) {
        switch (answer) {
            case "true":
                return 1;
            case "false":
                return 0;
            case "throws":
                return Check.THROWS;
            default:
                return Long.parseLong(answer);
        }
    }

    private static long answer(FinalLinks x, String name, String list)
            throws ReflectiveOperationException {
        Object[] args = Stream.of(list.split(",")).map(String::trim).filter(s -> !s.isEmpty())
                .map(Integer::valueOf).toArray();
        try {
            Object got = methodNamed(name).invoke(x, args);
            return got instanceof Boolean ? (Boolean) got ? 1 : 0 : (Integer) got;
        } catch (InvocationTargetException e) {
            if (e.getCause() instanceof NoSuchElementException) {
                return Check.THROWS;
            }
            throw e;
        }
    }

    private static List<Method> face() {
        return Stream.of(FinalLinks.class.getDeclaredMethods())
                .filter(m -> Modifier.isPublic(m.getModifiers())).collect(Collectors.toList());
    }

    private static Method methodNamed(String name) {
        return face().stream().filter(m -> m.getName().equals(name)).findFirst().orElseThrow();
    }

    private static List<String> section(List<String> page, String title) {
        List<String> found = new ArrayList<>();
        boolean inside = false;
        for (String line : page) {
            if (line.startsWith("## ")) {
                inside = line.equals("## " + title);
            } else if (inside) {
                found.add(line);
            }
        }
        return found;
    }

    /** Each call has one row that tells its answers, and says of it rightly whether it throws. */
    private static void callsAreTold(List<String> page) {
        List<String> names = new ArrayList<>();
        for (String line : section(page, "What the answers mean")) {
            Matcher row = ROW.matcher(line);
            if (row.matches()) {
                names.add(row.group(1));
                Method m = methodNamed(row.group(1));
                int told = row.group(2).isEmpty() ? 0 : row.group(2).split(",").length;
                Check.due("parameters told of " + m.getName(), told, m.getParameterCount());
                Check.due("told that it throws: " + m.getName(),
                        row.group(3).endsWith("| throws "), m.getExceptionTypes().length > 0);
            }
        }
        Check.due("calls told once", new TreeSet<>(names).size(), names.size());
        Check.due("calls told", names.size(), face().size());
    }

    private static void throwingCallsAreTold(List<String> page) {
        TreeSet<String> told = new TreeSet<>();
        for (String line : section(page, "Which calls throw what")) {
            Matcher row = ROW.matcher(line);
            if (row.matches()) {
                told.add(row.group(1));
            }
        }
        TreeSet<String> due = new TreeSet<>();
        for (Method m : face()) {
            if (m.getExceptionTypes().length > 0) {
                due.add(m.getName());
            }
        }
        Check.due("calls that throw " + told, told.equals(due), true);
    }

    private static void testsAreTold(String page) throws IOException {
        try (Stream<Path> files = Files.list(Path.of("src/test/java"))) {
            for (Path file : files.collect(Collectors.toList())) {
                String name = file.getFileName().toString();
                if (name.endsWith("Test.java")) {
                    Check.due(name + " is told", page.contains(name), true);
                }
            }
        }
    }
}
