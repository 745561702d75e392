import java.io.IOException;
import java.lang.reflect.Method;
import java.lang.reflect.Modifier;
import java.net.URL;
import java.net.URLClassLoader;
import java.nio.file.Files;
import java.nio.file.Path;
import java.util.ArrayList;
import java.util.List;
import java.util.Set;
import java.util.TreeSet;
import java.util.regex.Matcher;
import java.util.regex.Pattern;
import javax.tools.ToolProvider;

/**
 * What README.md says of the class: the calls of its examples answer and throw what stands behind
 * them, and neither its table nor its examples leave out a call or an exception.
 *
 * <p>The examples are made into the class ReadmeShows, which is compiled and run, so that they are
 * sure to be Java that a reader can copy.
 */
public final class ReadmeTests extends Checks {
    private static final Pattern SHOWN = Pattern.compile("\\s*(g\\.(\\w+)\\(.*\\));\\s+// (.+)");
    private static final Pattern ROW = Pattern.compile("\\| `(.+)` \\| .+ \\| (.+) \\|");

    public static void main(String[] args) throws IOException, ReflectiveOperationException {
        List<String> lines = Files.readAllLines(Path.of("README.md"));
        tableHasTheFace(lines);
        Set<String> shown = new TreeSet<>();
        String source = sourceOf(lines, shown);
        examplesLeaveNothingOut(shown);
        examplesAnswerAsShown(source);
        end("README.md says what the class does");
    }

    private static void tableHasTheFace(List<String> lines) {
        about("README.md, the table of calls");
        Set<String> want = new TreeSet<>();
        want.add("HangGraph() []");
        for (Method method : publicMethods()) {
            want.add(FaceTests.signature(method));
        }
        Set<String> got = new TreeSet<>();
        for (String line : lines) {
            Matcher row = ROW.matcher(line);
            if (row.matches()) {
                String call = row.group(1).replaceAll("int \\w+([,)])", "int$1");
                String exceptions = row.group(2).replace("`", "").replace("nothing", "");
                got.add(call + " [" + exceptions + "]");
            }
        }
        same(want.toString(), got.toString());
    }

    private static void examplesLeaveNothingOut(Set<String> shown) {
        about("README.md, what the examples show");
        Set<String> want = new TreeSet<>();
        for (Method method : publicMethods()) {
            want.add(method.getName() + " answers");
            for (Class<?> exception : method.getExceptionTypes()) {
                want.add(method.getName() + " throws " + exception.getSimpleName());
            }
        }
        same(want.toString(), shown.toString());
    }

    private static void examplesAnswerAsShown(String source)
            throws IOException, ReflectiveOperationException {
        List<String[]> seen = new ArrayList<>();
        run(source, seen);
        about("README.md, the examples");
        same("true", "" + !seen.isEmpty());
        for (String[] one : seen) {
            about("README.md, line " + one[0]);
            same(one[1], one[2]);
        }
    }

    /** The examples as the source of a class, and into shown what each of their calls does. */
    private static String sourceOf(List<String> lines, Set<String> shown) {
        StringBuilder source = new StringBuilder();
        source.append("public final class ReadmeShows {\n");
        source.append("public static void run(java.util.List<String[]> seen) {\n");
        boolean inside = false;
        for (int i = 0; i < lines.size(); i++) {
            String line = lines.get(i);
            if (line.startsWith("```")) {
                inside = line.equals("```java");
            } else if (inside) {
                source.append(codeOf(line, i + 1, shown)).append('\n');
            }
        }
        return source.append("}\n}\n").toString();
    }

    private static String codeOf(String line, int number, Set<String> shown) {
        Matcher call = SHOWN.matcher(line);
        if (!call.matches()) {
            about("README.md, line " + number + ": each call has behind it what it answers");
            same("false", "" + line.contains("g."));
            return line;
        }
        String due = call.group(3).replaceFirst(":.*", "");
        boolean thrown = due.startsWith("throws ");
        shown.add(call.group(2) + " " + (thrown ? due : "answers"));
        String want = thrown || due.equals("nothing") ? "\"" + due + "\"" : "\"\" + (" + due + ")";
        String answer = isVoid(call.group(2))
                ? call.group(1) + "; got = \"nothing\";"
                : "got = \"\" + " + call.group(1) + ";";
        return "{ String got; try { " + answer + " } catch (RuntimeException e) {"
                + " got = \"throws \" + e.getClass().getSimpleName(); }"
                + " seen.add(new String[] {\"" + number + "\", " + want + ", got}); }";
    }

    private static boolean isVoid(String name) {
        for (Method method : publicMethods()) {
            if (method.getName().equals(name)) {
                return method.getReturnType() == void.class;
            }
        }
        return false;
    }

    private static List<Method> publicMethods() {
        List<Method> methods = new ArrayList<>();
        for (Method method : HangGraph.class.getDeclaredMethods()) {
            if (Modifier.isPublic(method.getModifiers())) {
                methods.add(method);
            }
        }
        return methods;
    }

    private static void run(String source, List<String[]> seen)
            throws IOException, ReflectiveOperationException {
        Path directory = Files.createTempDirectory("readme");
        Path file = directory.resolve("ReadmeShows.java");
        Path made = directory.resolve("ReadmeShows.class");
        try {
            Files.writeString(file, source);
            String path = System.getProperty("java.class.path");
            int failed = ToolProvider.getSystemJavaCompiler().run(null, null, null,
                    "-cp", path, "-d", directory.toString(), file.toString());
            about("README.md, the examples compile");
            same("0", "" + failed);
            if (failed == 0) {
                call(directory, seen);
            }
        } finally {
            Files.deleteIfExists(file);
            Files.deleteIfExists(made);
            Files.deleteIfExists(directory);
        }
    }

    private static void call(Path directory, List<String[]> seen)
            throws IOException, ReflectiveOperationException {
        URL[] places = {directory.toUri().toURL()};
        try (URLClassLoader loader = new URLClassLoader(places)) {
            loader.loadClass("ReadmeShows").getMethod("run", List.class).invoke(null, seen);
        }
    }
}
