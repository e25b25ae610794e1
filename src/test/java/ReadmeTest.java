import java.io.File;
import java.lang.reflect.Method;
import java.lang.reflect.Modifier;
import java.net.URL;
import java.net.URLClassLoader;
import java.nio.file.Files;
import java.nio.file.Path;
import java.util.ArrayList;
import java.util.List;
import java.util.TreeSet;
import java.util.regex.Matcher;
import java.util.regex.Pattern;
import javax.tools.ToolProvider;

/** What README.md shows in Java is compiled and run as it stands, and answers what it says. */
public final class ReadmeTest {
    private static final Due DUE = new Due("ReadmeTest");
    private static final Path README = Path.of("README.md");
    private static final Path TESTS = Path.of("src/test/java");
    private static final int MOST_CALLS = 512;
    private static final Pattern SHOWN = Pattern.compile("(x\\.(\\w+)\\(.*\\)); +// (-?\\d+)(?![\\d,]).*");

    public static void main(String[] args) throws Exception {
        String readme = Files.readString(README);
        List<String> blocks = blocks(readme);
        DUE.due("a block that tells, and some that ask", blocks.size() > 1 ? 1 : 0, 1);
        if (blocks.size() > 1) {
            calls(blocks.get(0), blocks.subList(1, blocks.size()));
            allShown(blocks);
        }
        testsNamed(readme);
        DUE.close();
    }

    private static List<String> blocks(String readme) {
        List<String> found = new ArrayList<>();
        Matcher m = Pattern.compile("(?s)```java\n(.*?)```").matcher(readme);
        while (m.find()) {
            found.add(m.group(1));
        }
        return found;
    }

    /** The first block has methods, the others what is asked of one object, one behind the other. */
    private static void calls(String methods, List<String> asking) throws Exception {
        StringBuilder body = new StringBuilder();
        int asked = 0;
        for (String line : String.join("", asking).split("\n")) {
            Matcher m = SHOWN.matcher(line);
            if (m.matches()) {
                asked++;
                body.append("answers.add(new Object[] {\"" + m.group(1) + "\", (long) " + m.group(1) + ", "
                        + m.group(3) + "L});\n");
            } else {
                DUE.due("a call without its answer: " + line, line.startsWith("x.") ? 1 : 0, 0);
                body.append(line).append('\n');
            }
        }
        String source = "import java.util.*;\npublic final class Shown {\n" + methods
                + "public static List<Object[]> run() {\nList<Object[]> answers = new ArrayList<>();\n" + body
                + "return answers;\n}\n}\n";
        List<?> answers = run(source);
        DUE.due("calls that were asked", answers.size(), asked);
        for (Object answer : answers) {
            Object[] a = (Object[]) answer;
            DUE.due((String) a[0], (Long) a[1], (Long) a[2]);
        }
        // Each text takes a feed for twenty bytes and an end: with these too the object is not used up.
        int fed = String.join("", asking).length() / 20;
        DUE.due("more calls than an object has", asked + fed > MOST_CALLS ? asked + fed : 0, 0);
    }

    private static List<?> run(String source) throws Exception {
        Path made = Files.createTempDirectory("readme");
        try {
            Path file = made.resolve("Shown.java");
            Files.writeString(file, source);
            int failed = ToolProvider.getSystemJavaCompiler().run(null, null, null, "-d", made.toString(),
                    "-cp", System.getProperty("java.class.path"), file.toString());
            DUE.due("README.md's Java does not compile", failed, 0);
            if (failed != 0) {
                return List.of();
            }
            URL[] where = {made.toUri().toURL()};
            try (URLClassLoader loader = new URLClassLoader(where, ReadmeTest.class.getClassLoader())) {
                return (List<?>) loader.loadClass("Shown").getMethod("run").invoke(null);
            }
        } finally {
            for (File file : made.toFile().listFiles()) {
                file.delete();
            }
            made.toFile().delete();
        }
    }

    private static void allShown(List<String> blocks) {
        TreeSet<String> shown = new TreeSet<>();
        Matcher m = Pattern.compile("\\bx\\.(\\w+)\\(").matcher(String.join("", blocks));
        while (m.find()) {
            shown.add(m.group(1));
        }
        for (Method method : LongBoats.class.getDeclaredMethods()) {
            if (Modifier.isPublic(method.getModifiers())) {
                DUE.due("README.md shows " + method.getName(), shown.contains(method.getName()) ? 1 : 0, 1);
            }
        }
    }

    private static void testsNamed(String readme) {
        for (String name : TESTS.toFile().list()) {
            if (name.endsWith(".java")) {
                String test = name.substring(0, name.length() - 5);
                DUE.due("README.md names " + test, readme.contains("`" + test + "`") ? 1 : 0, 1);
            }
        }
    }
}
