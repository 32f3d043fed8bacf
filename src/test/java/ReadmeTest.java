import java.io.StringWriter;
import java.lang.invoke.MethodHandles;
import java.lang.reflect.Method;
import java.lang.reflect.Modifier;
import java.nio.file.Files;
import java.nio.file.Path;
import java.util.ArrayList;
import java.util.Arrays;
import java.util.List;
import java.util.Map;
import java.util.TreeMap;
import java.util.regex.Matcher;
import java.util.regex.Pattern;
import java.util.stream.Collectors;
import java.util.stream.Stream;
import javax.tools.JavaCompiler;
import javax.tools.StandardJavaFileManager;
import javax.tools.ToolProvider;

/**
 * README.md holds: its Java compiles as it stands there, its calls answer what stands behind them, and its tables
 * tell each call of the face, with its parameters and with all that it throws, in the document's order.
 */
public final class ReadmeTest extends Checks {
    private static final Pattern CALL = Pattern.compile("(x\\.\\w+\\(.*\\));\\s*// (throws \\w+|-?\\w+).*");
    private static final Pattern ROW = Pattern.compile("\\| `(\\w+)\\((.*?)\\)` \\|([^|]+)\\|([^|]*)\\|");

    private static List<String> page;

    public static void main(String[] args) throws Exception {
        page = Files.readAllLines(Path.of("README.md"));
        Class<?> example = compiled(example());
        run("the calls of README.md", () -> makeCalls(example));
        run("the tables of README.md", ReadmeTest::tables);
        run("how to run the tests", () -> yes("bash .ci/run", page.contains("    bash .ci/run")));
        end("ReadmeTest");
    }

    /** The blocks of Java, one behind another. */
    private static List<List<String>> blocks() {
        List<List<String>> blocks = new ArrayList<>();
        boolean inside = false;
        for (String line : page) {
            if (line.equals("```java")) {
                blocks.add(new ArrayList<>());
                inside = true;
            } else if (line.equals("```")) {
                inside = false;
            } else if (inside) {
                blocks.get(blocks.size() - 1).add(line);
            }
        }
        return blocks;
    }

    /** A class that makes the page's calls: the helper as it is, and of each call its answer is looked at. */
    private static String example() {
        List<List<String>> blocks = blocks();
        StringBuilder main = new StringBuilder();
        for (String line : blocks.get(1)) {
            Matcher call = CALL.matcher(line);
            if (!call.matches()) {
                main.append(line).append('\n');
            } else if (call.group(2).startsWith("throws ")) {
                main.append(String.format("Checks.fails(\"%1$s\", %2$s.class, () -> %1$s);%n", call.group(1),
                        call.group(2).substring(7)));
            } else {
                main.append(String.format("Checks.due(\"%1$s\", Readme.of(%1$s), Readme.of(%2$s));%n", call.group(1),
                        call.group(2)));
            }
        }
        return "final class Readme implements Checks.Call {\n" + String.join("\n", blocks.get(0)) + "\n"
                + "static long of(long n) { return n; }\nstatic long of(boolean yes) { return yes ? 1 : 0; }\n"
                + "public void of() {\n" + main + "}\n}\n";
    }

    private static Class<?> compiled(String source) throws Exception {
        Path out = Files.createTempDirectory("readme");
        try {
            Path file = Files.writeString(out.resolve("Readme.java"), source);
            JavaCompiler compiler = ToolProvider.getSystemJavaCompiler();
            StringWriter said = new StringWriter();
            StandardJavaFileManager files = compiler.getStandardFileManager(null, null, null);
            List<String> options = List.of("-proc:none", "-cp", System.getProperty("java.class.path"), "-d", out.toString());
            boolean right = compiler.getTask(said, files, null, options, null, files.getJavaFileObjects(file)).call();
            if (!right) {
                System.out.println(said);
                System.exit(1);
            }
            // beside the tests, so that it reaches Checks
            return MethodHandles.lookup().defineClass(Files.readAllBytes(out.resolve("Readme.class")));
        } finally {
            try (Stream<Path> left = Files.list(out)) {
                for (Path path : left.collect(Collectors.toList())) {
                    Files.delete(path);
                }
            }
            Files.delete(out);
        }
    }

    private static void makeCalls(Class<?> example) {
        try {
            var maker = example.getDeclaredConstructor();
            maker.setAccessible(true);
            ((Call) maker.newInstance()).of();
        } catch (ReflectiveOperationException e) {
            throw new IllegalStateException(e);
        }
        long told = blocks().get(1).stream().filter(line -> line.contains("//")).count();
        due("told answers that were looked at", checks, told);
    }

    private static void tables() {
        Map<String, String> due = new TreeMap<>();
        for (Method m : WakeTower.class.getDeclaredMethods()) {
            if (Modifier.isPublic(m.getModifiers())) {
                due.put(m.getName() + "/" + m.getParameterCount(),
                        Arrays.stream(m.getExceptionTypes()).map(Class::getSimpleName).collect(Collectors.joining(" ")));
            }
        }
        Map<String, String> got = new TreeMap<>();
        for (String line : page) {
            Matcher row = ROW.matcher(line);
            if (row.matches()) {
                int many = row.group(2).isEmpty() ? 0 : row.group(2).split(", ").length;
                String thrown = Pattern.compile("\\w+Exception").matcher(row.group(4)).results()
                        .map(found -> found.group()).collect(Collectors.joining(" "));
                yes(line + " is there once", got.put(row.group(1) + "/" + many, thrown) == null);
            }
        }
        due.forEach((name, thrown) -> yes(name + " throws " + thrown + ", not " + got.get(name), thrown.equals(got.get(name))));
        due("calls told", got.size(), due.size());
    }
}
