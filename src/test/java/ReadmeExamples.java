import java.io.IOException;
import java.io.StringWriter;
import java.lang.reflect.InvocationTargetException;
import java.lang.reflect.Method;
import java.net.URL;
import java.net.URLClassLoader;
import java.nio.file.Files;
import java.nio.file.Path;
import java.util.ArrayList;
import java.util.List;
import java.util.Map;
import java.util.TreeMap;
import java.util.TreeSet;
import java.util.regex.Matcher;
import java.util.regex.Pattern;
import javax.tools.JavaCompiler;
import javax.tools.ToolProvider;

/**
 * The java examples of a text in Markdown. They are compiled as they stand there, not read by a parser
 * of our own, so that what a reader copies is what was tested.
 */
final class ReadmeExamples {
    private static final String PROGRAM = "ReadmeProgram";
    private static final String THROWS = "throws ";
    private static final Pattern LINE = Pattern.compile("\\s*([^/;]*;)?\\s*(?://(.*))?");
    private static final Pattern TOLD = Pattern.compile("\\s*-> (throws \\w+|-?\\w+)(?:, .*)?");
    private static final Pattern CALL = Pattern.compile("trees\\.(\\w+)\\([^;]*\\);");

    private final StringBuilder program = new StringBuilder();
    private final Map<Integer, String> due = new TreeMap<>();
    private final List<String> complaints = new ArrayList<>();
    private final TreeSet<String> shown = new TreeSet<>();

    ReadmeExamples(String text) {
        program.append("public final class ").append(PROGRAM).append(" {\n")
                .append("public static void run(java.util.Map<Integer, String> got) {\n");
        boolean inside = false;
        int at = 0;
        for (String line : text.split("\n", -1)) {
            at++;
            if (line.startsWith("```")) {
                program.append(inside ? "}\n" : line.equals("```java") ? "{\n" : "");
                inside = !inside && line.equals("```java");
            } else if (inside) {
                takeLine(at, line);
            }
        }
        program.append("}\n}\n");
    }

    /** The methods that are called in the examples. */
    TreeSet<String> shown() {
        return shown;
    }

    /** How many answers the examples tell. */
    int told() {
        return due.size();
    }

    /** What is wrong with the examples, a line each. */
    List<String> complaints() throws IOException {
        List<String> all = new ArrayList<>(complaints);
        Map<Integer, String> got = new TreeMap<>();
        String failure = compileAndRun(got);
        if (!failure.isEmpty()) {
            all.add(failure);
            return all;
        }
        for (int at : due.keySet()) {
            if (!due.get(at).equals(got.get(at))) {
                all.add("line " + at + ": answered " + got.get(at) + ", told is " + due.get(at));
            }
        }
        return all;
    }

    private void takeLine(int at, String line) {
        Matcher parts = LINE.matcher(line);
        if (!parts.matches()) {
            complaints.add("line " + at + " is no statement on one line");
            return;
        }
        String statement = parts.group(1) == null ? "" : parts.group(1);
        String comment = parts.group(2) == null ? "" : parts.group(2);
        Matcher call = CALL.matcher(statement);
        Matcher told = TOLD.matcher(comment);
        if (comment.contains("->") && !(told.matches() && call.matches())) {
            complaints.add("line " + at + " tells an answer in a form that is not tested");
        } else if (told.matches()) {
            due.put(at, told.group(1));
            program.append(askingProgram(at, statement, told.group(1)));
        } else {
            program.append(statement).append('\n');
        }
        if (call.matches()) {
            shown.add(call.group(1));
            if (!told.matches() && answersSomething(call.group(1))) {
                complaints.add("line " + at + " does not tell what is answered");
            }
        }
    }

    private static String askingProgram(int at, String statement, String answer) {
        String expression = statement.substring(0, statement.length() - 1);
        // A call that is due to throw may be void, and so can't be an argument.
        String asked = answer.startsWith(THROWS)
                ? statement + " got.put(" + at + ", \"nothing thrown\");"
                : "got.put(" + at + ", String.valueOf(" + expression + "));";
        return "try { " + asked + " } catch (RuntimeException e) { got.put(" + at + ", \"" + THROWS
                + "\" + e.getClass().getSimpleName()); }\n";
    }

    private static boolean answersSomething(String name) {
        for (Method method : SegmentTrees.class.getMethods()) {
            if (method.getName().equals(name) && method.getReturnType() != void.class) {
                return true;
            }
        }
        return false;
    }

    /** Empty when the examples were done to their end; otherwise why not. */
    private String compileAndRun(Map<Integer, String> got) throws IOException {
        Path folder = Files.createTempDirectory("readme");
        Path source = folder.resolve(PROGRAM + ".java");
        try {
            Files.writeString(source, program);
            String failure = compile(source, folder);
            return failure.isEmpty() ? run(folder, got) : failure;
        } finally {
            Files.deleteIfExists(source);
            Files.deleteIfExists(folder.resolve(PROGRAM + ".class"));
            Files.delete(folder);
        }
    }

    private static String compile(Path source, Path folder) throws IOException {
        JavaCompiler compiler = ToolProvider.getSystemJavaCompiler();
        if (compiler == null) {
            return "there is no compiler here to do the examples with";
        }
        StringWriter said = new StringWriter();
        List<String> options = List.of("--release", "17", "-proc:none", "-d", folder.toString(),
                "-cp", System.getProperty("java.class.path"));
        try (var files = compiler.getStandardFileManager(null, null, null)) {
            boolean done = compiler.getTask(said, files, null, options, null,
                    files.getJavaFileObjects(source)).call();
            return done ? "" : "the examples do not compile: " + said;
        }
    }

    private static String run(Path folder, Map<Integer, String> got) throws IOException {
        URL[] places = {folder.toUri().toURL()};
        try (URLClassLoader loader = new URLClassLoader(places)) {
            loader.loadClass(PROGRAM).getMethod("run", Map.class).invoke(null, got);
            return "";
        } catch (InvocationTargetException e) {
            return "the examples stop with " + e.getCause();
        } catch (ReflectiveOperationException e) {
            return "the examples can't be done: " + e;
        }
    }
}
