import java.io.IOException;
import java.lang.reflect.Constructor;
import java.lang.reflect.Field;
import java.lang.reflect.Method;
import java.lang.reflect.Modifier;
import java.nio.file.Files;
import java.nio.file.Path;
import java.util.Arrays;
import java.util.List;
import java.util.Set;
import java.util.TreeSet;
import java.util.regex.Pattern;

/** The face is the document's and no more, and the source keeps away from what LANGUAGE.md leaves out. */
public final class FaceTest {
    private static final List<String> FACE = List.of("feed(int,int,int,int,int)int", "stair(int)boolean",
        "kind(int,int,int,int)boolean", "cost(int,int)boolean", "weight(int,int)boolean", "look(int,int)int",
        "likely(int)int", "plan(int)int", "fault(int)int", "tried(int,int)long", "fall(int,int,int)int",
        "judge(int)long", "best(int)long", "next(int,int,int,int,int)long", "edge(int,int)int", "weak(int,int)int",
        "rounds(int,int)int", "lies(int,int)int", "note(int,int,int,boolean)int", "strike(int)int",
        "fitting(int)int", "doubt(int)int", "least(int)int", "doubted(int)int", "parts(int)int",
        "begin(int)boolean", "drop(int,int)int", "back()int", "now(int)int", "count(int)int");

    private static final List<String> LEFT_OUT = List.of("->", "::", "\\bcatch\\b", "\\btry\\b", "\\bfinally\\b",
        "\\bsynchronized\\b", "\\bassert\\b", "\\bstatic\\s*\\{", "Exact\\(", "\\bByte\\.", "\\bCharacter\\.",
        "\\bBoolean\\.", "\\bSystem\\.(?!arraycopy)", "\\bvar\\b", "\\bhashCode\\b", "\\btoString\\b", "instanceof",
        "\\bString\\.(?:format|valueOf)", "Arrays\\.(?!copyOf|copyOfRange|fill)", "\\bdouble\\b", "\\bfloat\\b");

    private static void members() {
        Class<?> face = HighFall.class;
        Due.due("public and final", face.getModifiers() == (Modifier.PUBLIC | Modifier.FINAL), true);
        Set<String> found = new TreeSet<>();
        for (Method m : face.getDeclaredMethods()) {
            StringBuilder name = new StringBuilder(m.getName()).append('(');
            for (Class<?> type : m.getParameterTypes()) name.append(name.charAt(name.length() - 1) == '(' ? "" : ",").append(type.getName());
            name.append(')').append(m.getReturnType().getName());
            if (!Modifier.isPrivate(m.getModifiers())) {
                Due.due(m.getName() + " is plainly public", m.getModifiers(), Modifier.PUBLIC);
                found.add(name.toString());
            }
        }
        Due.due("the methods of the face: " + found, found.equals(new TreeSet<>(FACE)), true);
        for (Constructor<?> c : face.getDeclaredConstructors()) Due.due("constructor", c.getModifiers(), Modifier.PUBLIC);
        for (Field f : face.getDeclaredFields()) {
            boolean constant = f.getName().equals("NONE") || f.getName().equals("NEVER");
            Due.due(f.getName() + " is public", Modifier.isPublic(f.getModifiers()), constant);
            Due.due(f.getName() + " is private", Modifier.isPrivate(f.getModifiers()), !constant);
        }
    }

    private static void classesInside() {
        Class<?>[] inside = HighFall.class.getDeclaredClasses();
        Due.due("some twelve classes", inside.length <= 12, true);
        for (Class<?> c : inside) {
            Due.due(c.getName() + " is static", Modifier.isStatic(c.getModifiers()), true);
            long fields = Arrays.stream(c.getDeclaredFields()).filter(f -> !Modifier.isStatic(f.getModifiers())).count();
            Due.due(c.getName() + " has some twenty fields", fields <= 20, true);
            for (Method m : c.getDeclaredMethods()) {
                boolean taken = FACE.stream().anyMatch(f -> f.startsWith(m.getName() + "("));
                Due.due(c.getName() + "." + m.getName() + " bears a name of the face", taken, false);
                Due.due(c.getName() + "." + m.getName() + " has at most seven parameters", m.getParameterCount() <= 7, true);
            }
        }
    }

    private static void source() throws IOException {
        Path path = Path.of("src/main/java/HighFall.java");
        if (!Files.exists(path)) {
            Due.due("run from the project's root: " + path, false, true);
            return;
        }
        String text = Files.readString(path).replaceAll("(?s)/\\*.*?\\*/", "").replaceAll("//[^\\n]*", "");
        for (String out : LEFT_OUT) Due.due("the source has " + out, Pattern.compile(out).matcher(text).find(), false);
        for (String line : text.split("\\n")) {
            if (line.startsWith("import")) {
                Due.due(line, line.equals("import java.util.Arrays;") || line.equals("import java.util.NoSuchElementException;"), true);
            }
        }
    }

    public static void main(String[] args) throws IOException {
        members();
        classesInside();
        source();
        Due.end();
    }
}
