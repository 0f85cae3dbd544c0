import java.io.IOException;
import java.lang.reflect.Constructor;
import java.lang.reflect.Field;
import java.lang.reflect.Method;
import java.lang.reflect.Modifier;
import java.nio.file.Files;
import java.nio.file.Path;
import java.util.Set;
import java.util.TreeSet;
import java.util.regex.Matcher;
import java.util.regex.Pattern;

/** The face of the document, and those rules of LANGUAGE.md that can be seen in the class or in its source. */
public final class LanguageTest {
    private static final String SOURCE = "src/main/java/PartedLand.java";
    private static final String README = "README.md";
    private static final String FACE = "ahead(2) as(2) best(1) check(0) choose(2) copy(1) count(1) court(1) day(1) differ(0) edge(4)"
        + " enclave(1) far(3) feed(2) found(1) goes(1) hoard(2) home(1) law(1) move(2) open(4) parish(2) part(2) peg(2)"
        + " pension(3) person(2) propose(1) rest(1) seat(2) send(2) settle(2) side(1) stamp(2) task(1) tell(1) thing(2)"
        + " tie(2) waits(1) wagon(2) week(3) where(2) whose(2) work(3)";
    private static final Set<String> LIBRARY = Set.of("Math.min", "Math.abs", "Integer.bitCount", "Integer.numberOfTrailingZeros",
        "Arrays.fill", "System.arraycopy");

    private static final Due due = new Due();

    private LanguageTest() {
    }

    public static void main(String[] args) throws IOException {
        due.begin("LANGUAGE.md");
        face();
        for (Class<?> inside : PartedLand.class.getDeclaredClasses()) {
            insideClass(inside);
        }
        due.holds("at most twelve classes", PartedLand.class.getDeclaredClasses().length < 12);
        source(Files.readString(Path.of(SOURCE)));
        readme(Files.readString(Path.of(README)));
        due.end();
    }

    private static void face() {
        due.holds("public and final", Modifier.isPublic(PartedLand.class.getModifiers()) && Modifier.isFinal(PartedLand.class.getModifiers()));
        Set<String> methods = new TreeSet<>();
        for (Method method : PartedLand.class.getDeclaredMethods()) {
            if (Modifier.isPublic(method.getModifiers())) {
                methods.add(method.getName() + "(" + method.getParameterCount() + ")");
                due.holds(method + " answers an int", method.getReturnType() == int.class && !Modifier.isStatic(method.getModifiers()));
                for (Class<?> type : method.getParameterTypes()) {
                    due.holds(method + " takes ints", type == int.class);
                }
            } else {
                due.holds(method + " is private", Modifier.isPrivate(method.getModifiers()));
            }
        }
        due.holds("the methods of the document, not " + methods, methods.equals(Set.of(FACE.split(" "))));
        Constructor<?>[] constructors = PartedLand.class.getDeclaredConstructors();
        due.holds("one constructor", constructors.length == 1 && constructors[0].getParameterCount() == 0
            && Modifier.isPublic(constructors[0].getModifiers()));
        for (Field field : PartedLand.class.getDeclaredFields()) {
            due.holds(field + " is private", Modifier.isPrivate(field.getModifiers()));
        }
        staticFields(PartedLand.class);
    }

    private static void insideClass(Class<?> inside) {
        due.holds(inside + " is static", Modifier.isStatic(inside.getModifiers()) && !Modifier.isPublic(inside.getModifiers()));
        for (Method method : inside.getDeclaredMethods()) {
            due.holds(method + " bears no name of the face", !FACE.matches("(.* )?" + method.getName() + "\\(.*"));
            due.holds(method + " has seven parameters at most", method.getParameterCount() <= 7);
        }
        staticFields(inside);
    }

    private static void staticFields(Class<?> type) {
        int own = 0;
        for (Field field : type.getDeclaredFields()) {
            if (Modifier.isStatic(field.getModifiers())) {
                due.holds(field + " is final", Modifier.isFinal(field.getModifiers()));
            } else {
                own++;
            }
        }
        due.holds(type + " has some twenty fields at most", own <= 20);
    }

    private static void source(String text) {
        String code = text.replaceAll("(?s)/\\*.*?\\*/", "").replaceAll("//[^\n]*", "");
        due.holds("no package", !code.contains("package "));
        String[] banned = {"\\bthrow\\b", "\\bthrows\\b", "\\btry\\b", "\\bcatch\\b", "\\bsynchronized\\b", "\\bassert\\b", "->", "::",
            "\\bString\\b", "\\bObject\\b", "\\bdouble\\b", "\\bfloat\\b", "\\bstatic\\s*\\{", "\\bvar\\b", "\\binstanceof\\b", "\""};
        for (String one : banned) {
            due.holds("no " + one, !Pattern.compile(one).matcher(code).find());
        }
        Matcher library = Pattern.compile("\\b(Math|Integer|Long|Arrays|System)\\.\\w+").matcher(code);
        while (library.find()) {
            due.holds(library.group() + " is of the library", LIBRARY.contains(library.group()));
        }
        for (String line : code.split("\n")) {
            due.holds("made with the object alone: " + line, !line.contains(" new ") || line.contains(" final "));
            due.holds("no import but Arrays: " + line, !line.startsWith("import") || line.equals("import java.util.Arrays;"));
        }
        methodLengths(code);
    }

    /** The table of calls has a row for each method, with as many arguments, and none for another. */
    private static void readme(String text) {
        Set<String> told = new TreeSet<>();
        Matcher row = Pattern.compile("(?m)^\\| `(\\w+)\\(([^)]*)\\)` \\|").matcher(text);
        while (row.find()) {
            String arguments = row.group(2);
            told.add(row.group(1) + "(" + (arguments.isEmpty() ? 0 : arguments.split(",").length) + ")");
        }
        due.holds("README.md tells every call, not " + told, told.equals(new TreeSet<>(Set.of(FACE.split(" ")))));
    }

    private static void methodLengths(String code) {
        Matcher method = Pattern.compile("(?m)^( {4}| {8})(?=\\w)[\\w\\[\\] ]+\\([^;]*?\\) \\{\n((?:\\1 .*\n|\n)*)\\1\\}").matcher(code);
        int methods = 0;
        while (method.find()) {
            methods++;
            int lines = method.group(2).split("\n").length;
            due.holds("sixty lines at most: " + method.group().split("\n")[0], lines <= 60);
        }
        due.holds("all methods were looked at, not " + methods, methods > 130);
    }
}
