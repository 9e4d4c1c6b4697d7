import java.io.IOException;
import java.lang.reflect.Constructor;
import java.lang.reflect.Field;
import java.lang.reflect.Member;
import java.lang.reflect.Method;
import java.lang.reflect.Modifier;
import java.nio.file.Files;
import java.nio.file.Path;
import java.util.Arrays;
import java.util.List;
import java.util.Set;
import java.util.TreeSet;
import java.util.regex.Matcher;
import java.util.regex.Pattern;

/** The face of the class, and those rules of LANGUAGE.md that can be seen without running it. */
public final class LanguageTest {
    private static final String[] FACE = {
        "int feed(int,int,int,int,int)", "boolean end(int)", "int chain()", "int fault()",
        "int block(int,int)", "int ahead(int,int)", "int fork(int,int)", "int weight(int,int)",
        "int voter(int,int)", "int vote(int,int)", "int link(int,int,int)",
        "int votes(int,int,int)", "int looks(int,int)", "int grows(int)", "int undo()",
        "int offends(int,int,int)", "int evidence(int,int)", "int now(int)", "int chosen(int)",
        "int need(int,int)", "int needed()", "int way(int)", "int wayFrom()", "int clash()",
        "int clashAt(int)", "int guilt(int)", "int mean(int)", "int tag(int)", "int byteAt(int)",
        "int drawn(int,int)", "int odds(int,int,int)", "int book(int)", "int told(int)",
        "int sentence()", "int said(int)", "boolean image(int)", "boolean restore(int)",
        "int count(int)"};

    private LanguageTest() {
    }

    public static void main(String[] args) throws IOException {
        face();
        members();
        nestedClasses();
        staticFields(FinalLinks.class);
        String whole = Files.readString(Path.of("src/main/java/FinalLinks.java"));
        source(whole);
        methods(withoutComments(whole));
        library(withoutComments(whole));
        Check.finish("LanguageTest");
    }

    private static String signature(Method m) {
        StringBuilder s = new StringBuilder(m.getReturnType().getName() + " " + m.getName() + "(");
        String comma = "";
        for (Class<?> p : m.getParameterTypes()) {
            s.append(comma).append(p.getName());
            comma = ",";
        }
        return s.append(")").toString();
    }

    private static void face() {
        Set<String> got = new TreeSet<>();
        for (Method m : FinalLinks.class.getDeclaredMethods()) {
            if (!Modifier.isPrivate(m.getModifiers())) {
                got.add(signature(m));
            }
        }
        Set<String> want = new TreeSet<>(Arrays.asList(FACE));
        Check.due("methods of the face " + got, got.equals(want), true);
        Check.due("the class is public and final",
                FinalLinks.class.getModifiers() & (Modifier.PUBLIC | Modifier.FINAL),
                Modifier.PUBLIC | Modifier.FINAL);
        Check.due("NONE", FinalLinks.NONE, -1);
        Constructor<?>[] all = FinalLinks.class.getDeclaredConstructors();
        Check.due("constructors", all.length, 1);
        Check.due("its parameters", all[0].getParameterCount(), 0);
        List<String> throwing = List.of("block", "link", "guilt", "mean");
        for (Method m : FinalLinks.class.getDeclaredMethods()) {
            Check.due(m.getName() + " declares exceptions", m.getExceptionTypes().length,
                    throwing.contains(m.getName()) ? 1 : 0);
        }
    }

    private static void members() {
        Set<String> publicNames = new TreeSet<>();
        for (String f : FACE) {
            publicNames.add(f.substring(f.indexOf(' ') + 1, f.indexOf('(')));
        }
        for (Field f : FinalLinks.class.getDeclaredFields()) {
            boolean isFace = f.getName().equals("NONE");
            Check.due("field " + f.getName() + " is private", isPrivate(f), !isFace);
        }
        for (Method m : FinalLinks.class.getDeclaredMethods()) {
            Check.due("method " + m.getName() + " is private", isPrivate(m),
                    !publicNames.contains(m.getName()));
        }
        for (Class<?> c : FinalLinks.class.getDeclaredClasses()) {
            for (Method m : c.getDeclaredMethods()) {
                Check.due(c.getName() + "." + m.getName() + " bears a public name",
                        publicNames.contains(m.getName()), false);
                Check.due(m.getName() + " has seven parameters at most",
                        m.getParameterCount() <= 7, true);
            }
        }
    }

    private static boolean isPrivate(Member m) {
        return Modifier.isPrivate(m.getModifiers());
    }

    private static void nestedClasses() {
        Class<?>[] inside = FinalLinks.class.getDeclaredClasses();
        Check.due("twelve classes at most", inside.length + 1 <= 12, true);
        for (Class<?> c : inside) {
            Check.due(c.getName() + " is static", Modifier.isStatic(c.getModifiers()), true);
            int fields = 0;
            for (Field f : c.getDeclaredFields()) {
                boolean isStatic = Modifier.isStatic(f.getModifiers());
                fields += isStatic ? 0 : 1;
                Check.due("static " + f.getName() + " is final",
                        !isStatic || Modifier.isFinal(f.getModifiers()), true);
            }
            Check.due(c.getName() + " has twenty fields at most", fields <= 20, true);
        }
    }

    /** Rule 5: constants of int, long, boolean, char or String, and rows of numbers. */
    private static void staticFields(Class<?> of) {
        List<String> types = List.of("int", "long", "boolean", "char", "java.lang.String",
                "[I", "[J", "[C", "[B");
        for (Field f : of.getDeclaredFields()) {
            if (Modifier.isStatic(f.getModifiers())) {
                Check.due("static " + f.getName() + " is final",
                        Modifier.isFinal(f.getModifiers()), true);
                Check.due("static " + f.getName() + " is of a type of rule 5",
                        types.contains(f.getType().getName()), true);
            }
        }
        for (Class<?> inside : of.getDeclaredClasses()) {
            staticFields(inside);
        }
    }

    private static String withoutComments(String whole) {
        return whole.replaceAll("(?s)/\\*.*?\\*/", "").replaceAll("//[^\n]*", "");
    }

    /** Rule 11: some sixty lines. The room of a run: what is made is made by constructors alone. */
    private static void methods(String code) {
        Pattern head = Pattern.compile(
                "( {4}| {8})(?! )[\\w\\[\\] ]*\\b(\\w+)\\([^()]*\\)[\\w ]*\\{");
        String name = "";
        String close = "";
        int lines = 0;
        int seen = 0;
        for (String line : code.split("\n")) {
            Matcher m = head.matcher(line);
            if (close.isEmpty() && m.matches()) {
                name = m.group(2);
                close = m.group(1) + "}";
                lines = 0;
                seen++;
            }
            lines++;
            boolean makes = count(line.replaceAll("throw new", ""), "\\bnew\\b") > 0;
            if (makes) {
                Check.due(name + " makes something and is a constructor: " + line.trim(),
                        !close.isEmpty() && Character.isUpperCase(name.charAt(0)), true);
            }
            if (!close.isEmpty() && line.equals(close)) {
                Check.due(name + " has sixty lines at most", lines <= 60, true);
                close = "";
            }
        }
        Check.due("methods seen in the source", seen > 100, true);
    }

    /** Rule 4: of the library's own classes only what is told there. */
    private static void library(String code) {
        Set<String> used = new TreeSet<>();
        Matcher m = Pattern.compile("\\b(String|StringBuilder|Integer|Long|Math|System|Arrays|List|"
                + "ArrayList|Object|Character|Byte|Short|Boolean|Iterable|Iterator)\\b(\\.\\w+)?")
                .matcher(code);
        while (m.find()) {
            used.add(m.group());
        }
        Set<String> may = new TreeSet<>(Arrays.asList("String", "Integer.bitCount",
                "Integer.numberOfLeadingZeros", "Math.min", "Math.max", "System.arraycopy"));
        used.removeAll(may);
        Check.due("used of the library beside rule 4: " + used, used.size(), 0);
    }

    private static void source(String whole) {
        String code = withoutComments(whole);
        String[] banned = {"->", "::", "\\btry\\b", "\\bcatch\\b", "\\bfinally\\b", "\\bassert\\b",
            "\\bsynchronized\\b", "\\bpackage\\b", "\\bdouble\\b", "\\bfloat\\b", "Exact\\b",
            "\\bstatic\\s*\\{", "\"\\s*\\+|\\+\\s*\"", "\\bprotected\\b", "\\.getMessage\\b",
            "\\bhashCode\\b", "\\btoString\\b", "\\bvar\\b", "\\bnative\\b", "\\bthread\\b"};
        for (String b : banned) {
            Check.due("uses of " + b, count(code, b), 0);
        }
        Check.due("imports", count(code, "\\bimport\\b"), 1);
        Check.due("throws", count(code, "\\bthrow\\b"),
                count(code, "throw new NoSuchElementException\\(\\);"));
        Check.due("only ASCII", whole.chars().allMatch(c -> c < 128), true);
    }

    private static int count(String code, String pattern) {
        Matcher m = Pattern.compile(pattern).matcher(code);
        int n = 0;
        while (m.find()) {
            n++;
        }
        return n;
    }
}
