import java.io.IOException;
import java.lang.reflect.Method;
import java.lang.reflect.Modifier;
import java.net.URL;
import java.net.URLClassLoader;
import java.nio.file.Files;
import java.nio.file.Path;
import java.util.ArrayList;
import java.util.List;
import java.util.function.Supplier;
import java.util.regex.Matcher;
import java.util.regex.Pattern;
import javax.tools.ToolProvider;

/** What README.md tells is so: its example answers as it says, its table has every call, its tests are there. */
public final class ReadmeTest {
    private static final Pattern MADE = Pattern.compile("FrankDesk desk = new FrankDesk\\(\\d+\\);");
    private static final Pattern ASKED = Pattern.compile("(desk\\..*\\));\\s*// (YES|NO|BAD|CUT|-?\\d+)(: .*)?");
    private static final Pattern ROW = Pattern.compile("(?m)^\\| `(\\w+)\\(([^)]*)\\)`( \\*)? \\|");
    private static final Pattern TEST_NAME = Pattern.compile("`(\\w+Test)`");

    public static void main(String[] args) throws IOException, ReflectiveOperationException {
        Due due = new Due();
        String readme = Files.readString(Path.of("README.md"));
        exampleAnswers(due, readme);
        tableHasEveryCall(due, readme);
        starsAreRight(due, readme);
        testsAreThere(due, readme);
        due.end();
    }

    private static void exampleAnswers(Due due, String readme) throws IOException, ReflectiveOperationException {
        due.of("an example whose answers are those that the class gives");
        String[] lines = exampleOf(readme);
        List<Matcher> asked = new ArrayList<>();
        for (int i = 1; i < lines.length; i++) {
            Matcher line = ASKED.matcher(lines[i]);
            if (line.matches()) {
                asked.add(line);
            }
            due.holds("'" + lines[i] + "' is a call and its answer", line.matches());
        }
        due.holds("'" + lines[0] + "' makes an object", MADE.matcher(lines[0]).matches());
        long[] answers = answersOf(lines[0], asked);
        for (int i = 0; i < answers.length; i++) {
            due.is(asked.get(i).group(1), answers[i], numberOf(asked.get(i).group(2)));
        }
    }

    private static String[] exampleOf(String readme) {
        String fence = "```java\n";
        int start = readme.indexOf(fence) + fence.length();
        return readme.substring(start, readme.indexOf("```", start)).strip().split("\n");
    }

    private static long numberOf(String answer) {
        switch (answer) {
            case "YES":
                return FrankDesk.YES;
            case "NO":
                return FrankDesk.NO;
            case "BAD":
                return FrankDesk.BAD;
            case "CUT":
                return FrankDesk.CUT;
            default:
                return Long.parseLong(answer);
        }
    }

    /** Compiles the lines as they stand in README.md, so that they are also Java. */
    private static long[] answersOf(String made, List<Matcher> asked) throws IOException, ReflectiveOperationException {
        StringBuilder source = new StringBuilder("public final class Example "
                + "implements java.util.function.Supplier<long[]> {\npublic long[] get() {\n");
        source.append(made).append("\nreturn new long[] {\n");
        for (Matcher line : asked) {
            source.append(line.group(1)).append(",\n");
        }
        source.append("};\n}\n}\n");
        Path folder = Files.createTempDirectory("example");
        Path file = folder.resolve("Example.java");
        Path classFile = folder.resolve("Example.class");
        try {
            Files.writeString(file, source);
            int failed = ToolProvider.getSystemJavaCompiler().run(null, null, null, "-d", folder.toString(),
                    "-cp", System.getProperty("java.class.path"), file.toString());
            return failed == 0 ? run(folder) : new long[0];
        } finally {
            Files.deleteIfExists(file);
            Files.deleteIfExists(classFile);
            Files.deleteIfExists(folder);
        }
    }

    private static long[] run(Path folder) throws IOException, ReflectiveOperationException {
        try (URLClassLoader loader = new URLClassLoader(new URL[] {folder.toUri().toURL()})) {
            Object example = loader.loadClass("Example").getDeclaredConstructor().newInstance();
            return (long[]) ((Supplier<?>) example).get();
        }
    }

    private static void tableHasEveryCall(Due due, String readme) {
        due.of("what its calls answer");
        int calls = 0;
        for (Method method : FrankDesk.class.getDeclaredMethods()) {
            if (Modifier.isPublic(method.getModifiers())) {
                calls++;
                due.holds("a row for " + method.getName(), hasRow(readme, method));
            }
        }
        due.is("rows of the table", ROW.matcher(readme).results().count(), calls);
    }

    private static boolean hasRow(String readme, Method method) {
        return ROW.matcher(readme).results().anyMatch(row -> row.group(1).equals(method.getName())
                && argumentsIn(row.group(2)) == method.getParameterCount());
    }

    private static int argumentsIn(String list) {
        return list.isEmpty() ? 0 : list.split(", ").length;
    }

    private static void starsAreRight(Due due, String readme) throws ReflectiveOperationException {
        due.of("A call with a * answers without power, too; each other one answers CUT then");
        for (Method method : FrankDesk.class.getDeclaredMethods()) {
            if (Modifier.isPublic(method.getModifiers())) {
                due.holds("a * behind " + method.getName() + ", or none", hasStar(readme, method) == needsNoPower(method));
            }
        }
    }

    private static boolean hasStar(String readme, Method method) {
        return ROW.matcher(readme).results()
                .anyMatch(row -> row.group(1).equals(method.getName()) && row.group(3) != null);
    }

    private static boolean needsNoPower(Method method) throws ReflectiveOperationException {
        FrankDesk desk = new FrankDesk(77);
        Desk.powerOff(desk);
        Object[] zeros = new Object[method.getParameterCount()];
        for (int i = 0; i < zeros.length; i++) {
            zeros[i] = method.getParameterTypes()[i] == boolean.class ? (Object) false : (Object) 0;
        }
        return ((Number) method.invoke(desk, zeros)).longValue() != FrankDesk.CUT;
    }

    private static void testsAreThere(Due due, String readme) {
        due.of("how to run its tests");
        due.holds("README.md names .ci/run", readme.contains("`.ci/run`"));
        due.holds(".ci/run can be run", Files.isExecutable(Path.of(".ci/run")));
        TEST_NAME.matcher(readme).results().forEach(name -> due.holds(name.group(1) + " is there",
                Files.exists(Path.of("src/test/java", name.group(1) + ".java"))));
    }
}
