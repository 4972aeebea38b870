import java.lang.reflect.Method;
import java.lang.reflect.Modifier;
import java.nio.file.Files;
import java.nio.file.Path;
import java.util.ArrayList;
import java.util.List;
import java.util.regex.Matcher;
import java.util.regex.Pattern;
import javax.tools.ToolProvider;

/** README.md says what is so: its Java blocks are compiled as they stand, and each line 'call;  // answer' is asked. */
public final class ReadmeTest {
    private static final Pattern ASKED = Pattern.compile("(.+\\));\\s*// (-?\\w+)\\b.*");
    private static final String CLASS = "ReadmeExample";

    /** The blocks of Java of a page, each of its lines. */
    private static List<List<String>> blocks(List<String> page) {
        List<List<String>> blocks = new ArrayList<>();
        boolean inside = false;
        for (String line : page) {
            if (line.equals("```java")) {
                inside = true;
                blocks.add(new ArrayList<>());
            } else if (line.equals("```")) {
                inside = false;
            } else if (inside) {
                blocks.get(blocks.size() - 1).add(line);
            }
        }
        return blocks;
    }

    private static String due(String answer) {
        switch (answer) {
            case "true":
                return "1";
            case "false":
                return "0";
            case "IllegalArgumentException":
                return "Due.ARGUMENT";
            case "NoSuchElementException":
                return "Due.ELEMENT";
            default:
                return answer + "L";
        }
    }

    /** Some methods answer a boolean. */
    private static String asNumber(String call) {
        return call.matches("x\\.(world|differs|left)\\(.*") ? call + " ? 1 : 0" : call;
    }

    private static String asked(String line) {
        Matcher m = ASKED.matcher(line);
        if (!m.matches()) {
            return line;
        }
        String call = m.group(1);
        String what = "README.md: " + call.replace("\\", "\\\\").replace("\"", "\\\"");
        return "Due.is(\"" + what + "\", " + due(m.group(2)) + ", () -> " + asNumber(call) + ");";
    }

    private static String program(List<List<String>> blocks) {
        StringBuilder helpers = new StringBuilder();
        StringBuilder run = new StringBuilder();
        for (List<String> block : blocks) {
            if (block.get(0).startsWith("static ")) {
                helpers.append(String.join("\n", block)).append('\n');
                continue;
            }
            run.append("{\n");
            for (String line : block) {
                run.append(asked(line)).append('\n');
            }
            run.append("}\n");
        }
        return "final class " + CLASS + " {\n" + helpers + "static void run() {\n" + run + "}\n}\n";
    }

    /** Compiles beside this test's own class, so that the program sees what the tests see. */
    private static void compileAndRun(String program) throws Exception {
        Path home = Path.of(ReadmeTest.class.getProtectionDomain().getCodeSource().getLocation().toURI());
        Path file = Files.createTempDirectory("readme").resolve(CLASS + ".java");
        Files.writeString(file, program);
        int failed = ToolProvider.getSystemJavaCompiler().run(null, null, null,
                "-encoding", "UTF-8", "-cp", home.toString(), "-d", home.toString(), file.toString());
        Files.delete(file);
        Files.delete(file.getParent());
        Due.is("README.md's programs compile", 0, failed);
        if (failed == 0) {
            Method run = Class.forName(CLASS).getDeclaredMethod("run");
            run.setAccessible(true);
            run.invoke(null);
        }
    }

    /** Each method of the face is shown with an answer. */
    private static void showsAll(String program) {
        for (Method m : SendHall.class.getDeclaredMethods()) {
            if (Modifier.isPublic(m.getModifiers())) {
                Due.holds("README.md shows " + m.getName(), true, program.contains("-> x." + m.getName() + "("));
            }
        }
    }

    /** Each test of the project is named, and each test that is named is there. */
    private static void namesTests(String page) throws Exception {
        try (var files = Files.list(Path.of("src/test/java"))) {
            for (Path file : (Iterable<Path>) files::iterator) {
                String name = file.getFileName().toString().replace(".java", "");
                Due.holds("README.md names " + name, true, !name.endsWith("Test") || page.contains("`" + name));
            }
        }
        Matcher named = Pattern.compile("`(\\w+Test)\\b").matcher(page);
        while (named.find()) {
            Due.holds(named.group(1) + " is there", true, Files.exists(Path.of("src/test/java", named.group(1) + ".java")));
        }
    }

    public static void main(String[] args) throws Exception {
        List<String> page = Files.readAllLines(Path.of("README.md"));
        String program = program(blocks(page));
        compileAndRun(program);
        showsAll(program);
        namesTests(String.join("\n", page));
        Due.end("ReadmeTest");
    }
}
