import java.io.IOException;
import java.lang.reflect.Method;
import java.lang.reflect.Modifier;
import java.net.URL;
import java.net.URLClassLoader;
import java.nio.file.Files;
import java.nio.file.Path;
import java.util.ArrayList;
import java.util.Comparator;
import java.util.List;
import java.util.regex.Matcher;
import java.util.regex.Pattern;
import java.util.stream.Stream;
import javax.tools.JavaCompiler;
import javax.tools.ToolProvider;

/**
 * The calls that README.md shows, with the answers that it names. Its java blocks are compiled as they stand
 * there: a block that begins with "static" is a method, every other one a row of calls, each with its answer
 * behind "//".
 */
public final class ReadmeTest {
    private static final Pattern BLOCK = Pattern.compile("(?ms)^```java\\n(.*?)^```$");
    private static final Pattern CALL = Pattern.compile("(\\S.*?\\)); +// (true|false|-?\\d+|throws \\w+)(:.*)?");
    private static final String NEW_OBJECT = "HighFall x = new HighFall();";

    private final String text;
    private final StringBuilder methods = new StringBuilder();
    private final List<String> blocks = new ArrayList<>();
    private int calls = 0;

    private ReadmeTest(String text) {
        this.text = text;
    }

    private void readBlocks() {
        Matcher block = BLOCK.matcher(text);
        while (block.find()) {
            if (block.group(1).startsWith("static ")) methods.append(block.group(1));
            else blocks.add(block.group(1));
        }
        Due.due("README.md shows blocks of calls", blocks.isEmpty(), false);
    }

    /** One method for each block, which tells its answers one behind the other. */
    private String source() {
        StringBuilder source = new StringBuilder("public class ReadmeCalls {\n");
        source.append(methods);
        source.append("static String told(boolean answer) { return answer ? \"true\" : \"false\"; }\n");
        source.append("static String told(long answer) { return Long.toString(answer); }\n");
        for (int i = 0; i < blocks.size(); i++) {
            source.append("public static void block").append(i).append("(java.util.List<String> told) {\n");
            for (String line : blocks.get(i).split("\\n")) source.append(statement(line)).append('\n');
            source.append("}\n");
        }
        return source.append("}\n").toString();
    }

    private String statement(String line) {
        if (line.startsWith(NEW_OBJECT)) return NEW_OBJECT;
        Matcher call = CALL.matcher(line);
        boolean shown = call.matches();
        Due.due("README.md names the answer of <" + line + ">", shown, true);
        if (!shown) return "";
        calls++;
        return "try { told.add(told(" + call.group(1) + "));"
            + " } catch (RuntimeException e) { told.add(\"throws \" + e.getClass().getSimpleName()); }";
    }

    private void compareBlock(int i, Class<?> compiled) throws ReflectiveOperationException {
        List<String> told = new ArrayList<>();
        compiled.getMethod("block" + i, List.class).invoke(null, told);
        int at = 0;
        for (String line : blocks.get(i).split("\\n")) {
            Matcher call = CALL.matcher(line);
            if (!line.startsWith(NEW_OBJECT) && call.matches()) {
                String answer = at < told.size() ? told.get(at) : "nothing";
                Due.due("README.md: <" + line + ">, the answer " + answer, answer.equals(call.group(2)), true);
                at++;
            }
        }
    }

    private void compareAnswers(Path room) throws IOException, ReflectiveOperationException {
        Path file = room.resolve("ReadmeCalls.java");
        Files.writeString(file, source());
        JavaCompiler compiler = ToolProvider.getSystemJavaCompiler();
        int failed = compiler.run(null, System.out, System.out, "-cp", System.getProperty("java.class.path"),
            "-d", room.toString(), file.toString());
        Due.due("the calls of README.md don't compile", failed, 0);
        if (failed != 0) return;
        try (URLClassLoader loader = new URLClassLoader(new URL[] {room.toUri().toURL()}, ReadmeTest.class.getClassLoader())) {
            Class<?> compiled = loader.loadClass("ReadmeCalls");
            for (int i = 0; i < blocks.size(); i++) compareBlock(i, compiled);
        }
    }

    /** Every call of the face is shown, in a row of calls and not in words alone. */
    private void showsTheFace() {
        String shown = String.join("\n", blocks);
        for (Method m : HighFall.class.getDeclaredMethods()) {
            if (Modifier.isPublic(m.getModifiers())) {
                Due.due("README.md shows " + m.getName(), shown.contains("x." + m.getName() + "("), true);
            }
        }
        for (String constant : new String[] {"HighFall.NONE", "HighFall.NEVER"}) {
            Due.due("README.md names " + constant, text.contains(constant), true);
        }
    }

    private void namesTheTests() throws IOException {
        Due.due("README.md says how the tests are run", text.contains("`.ci/run`"), true);
        try (Stream<Path> files = Files.list(Path.of("src/test/java"))) {
            for (Path file : files.sorted().toList()) {
                String name = file.getFileName().toString();
                if (name.endsWith("Test.java")) {
                    String test = name.substring(0, name.length() - ".java".length());
                    Due.due("README.md names " + test, text.contains("`" + test + "`"), true);
                }
            }
        }
    }

    private static void remove(Path room) throws IOException {
        try (Stream<Path> files = Files.walk(room)) {
            for (Path file : files.sorted(Comparator.reverseOrder()).toList()) Files.delete(file);
        }
    }

    public static void main(String[] args) throws IOException, ReflectiveOperationException {
        ReadmeTest test = new ReadmeTest(Files.readString(Path.of("README.md")));
        test.readBlocks();
        Path room = Files.createTempDirectory("readme");
        try {
            test.compareAnswers(room);
        } finally {
            remove(room);
        }
        Due.due("README.md shows calls", test.calls > 0, true);
        test.showsTheFace();
        test.namesTheTests();
        Due.end();
    }
}
