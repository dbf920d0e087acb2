import java.io.IOException;
import java.lang.reflect.Method;
import java.lang.reflect.Modifier;
import java.net.URL;
import java.net.URLClassLoader;
import java.nio.file.Files;
import java.nio.file.Path;
import java.util.ArrayList;
import java.util.List;
import java.util.regex.Matcher;
import java.util.regex.Pattern;
import javax.tools.ToolProvider;

/** Runs the examples of README.md: the answer that stands behind a call there must be the one that comes. */
public final class ReadmeTest {
    private static final Pattern ANSWERED = Pattern.compile("(?:int (\\w+) = )?(.+);\\s*// (-?\\d+|'.')(?!\\w).*");

    private final Checks checks = new Checks("readme");
    private final List<String> lines;
    private final List<List<String>> calls = new ArrayList<>();
    private final List<List<Long>> wants = new ArrayList<>();

    private ReadmeTest(List<String> lines) {
        this.lines = lines;
    }

    public static void main(String[] args) throws IOException, ReflectiveOperationException {
        ReadmeTest test = new ReadmeTest(Files.readAllLines(Path.of("README.md")));
        test.wantEveryCall();
        String source = test.source();
        Path room = Files.createTempDirectory("readme");
        try {
            test.run(source, room);
        } finally {
            removeAll(room);
        }
        test.checks.end();
    }

    private void wantEveryCall() {
        String text = String.join("\n", lines);
        for (Method each : LibraryTools.class.getDeclaredMethods()) {
            if (Modifier.isPublic(each.getModifiers()) && !text.contains("`" + each.getName() + "`")) {
                checks.fail("README.md says nothing of " + each.getName());
            }
        }
    }

    /** A class with one method for each example, which gives its answers back. */
    private String source() {
        StringBuilder all = new StringBuilder("import java.util.*;\npublic final class ReadmeExamples {\n");
        boolean inside = false;
        for (String line : lines) {
            if (line.equals("```java")) {
                all.append("public static List<Long> run").append(calls.size());
                all.append("() { List<Long> got = new ArrayList<>();\n");
                calls.add(new ArrayList<>());
                wants.add(new ArrayList<>());
                inside = true;
            } else if (inside && line.equals("```")) {
                all.append("return got; }\n");
                inside = false;
            } else if (inside) {
                all.append(statement(line)).append('\n');
            }
        }
        return all.append("}\n").toString();
    }

    private String statement(String line) {
        Matcher answered = ANSWERED.matcher(line);
        if (!answered.matches()) {
            if (line.contains("//")) {
                checks.fail("no answer can be read in: " + line);
            }
            return line;
        }
        String name = answered.group(1);
        String call = answered.group(2);
        String answer = answered.group(3);
        calls.get(calls.size() - 1).add(call);
        wants.get(wants.size() - 1).add(answer.charAt(0) == '\'' ? answer.charAt(1) : Long.parseLong(answer));
        return name == null
            ? "got.add((long) " + call + ");"
            : "int " + name + " = " + call + "; got.add((long) " + name + ");";
    }

    private void run(String source, Path room) throws IOException, ReflectiveOperationException {
        Path file = Files.writeString(room.resolve("ReadmeExamples.java"), source);
        int code = ToolProvider.getSystemJavaCompiler().run(null, null, null,
            "-d", room.toString(), "-cp", System.getProperty("java.class.path"), file.toString());
        checks.due("javac of the examples", code, 0);
        if (code != 0) {
            return;
        }
        try (URLClassLoader loader = new URLClassLoader(new URL[] {room.toUri().toURL()})) {
            Class<?> examples = loader.loadClass("ReadmeExamples");
            for (int i = 0; i < calls.size(); i++) {
                compare(i, (List<?>) examples.getMethod("run" + i).invoke(null));
            }
        }
    }

    private void compare(int example, List<?> got) {
        for (int k = 0; k < got.size(); k++) {
            String call = "example " + (example + 1) + ": " + calls.get(example).get(k);
            checks.due(call, (Long) got.get(k), wants.get(example).get(k));
        }
    }

    private static void removeAll(Path room) throws IOException {
        try (var files = Files.list(room)) {
            for (Path each : files.toList()) {
                Files.delete(each);
            }
        }
        Files.delete(room);
    }
}
