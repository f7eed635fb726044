import java.io.IOException;
import java.lang.reflect.Method;
import java.lang.reflect.Modifier;
import java.net.URL;
import java.net.URLClassLoader;
import java.nio.file.Files;
import java.nio.file.Path;
import java.util.Comparator;
import java.util.List;
import java.util.regex.Matcher;
import java.util.regex.Pattern;
import java.util.stream.Stream;
import javax.tools.JavaCompiler;
import javax.tools.ToolProvider;

/** README.md doesn't tell what the class doesn't do: its examples are compiled and run, and no call is left out. */
public final class ReadmeTest {
    /** A call and what it answers, as an example has it. */
    private static final Pattern ANSWERED = Pattern.compile("(\\s*)(\\S.*);\\s*// (-?\\d+): .+");
    private static final Pattern ROW = Pattern.compile("\\| `(\\w+)\\(([^)]*)\\)` \\|.*");

    private static int wrong = 0;

    private ReadmeTest() {
    }

    public static void main(String[] args) throws IOException, ReflectiveOperationException {
        List<String> readme = Files.readAllLines(Path.of(System.getProperty("carpets.readme", "README.md")));
        rows(readme);
        int answers = examples(readme);
        due("README.md says how to run the tests", readme.contains(".ci/run"));
        due("README.md has examples", answers > 0);
        System.out.println(wrong == 0 ? answers + " answers of README.md are as due" : wrong + " faults of README.md");
        if (wrong != 0) {
            System.exit(1);
        }
    }

    private static void due(String what, boolean fine) {
        if (!fine) {
            wrong++;
            System.out.println("not so: " + what);
        }
    }

    private static void rows(List<String> readme) {
        int calls = 0;
        for (Method m : CarpetRealms.class.getDeclaredMethods()) {
            if (Modifier.isPublic(m.getModifiers())) {
                calls++;
                long rows = readme.stream().map(ROW::matcher).filter(r -> isRowOf(r, m)).count();
                due("one row for " + m.getName(), rows == 1);
            }
        }
        long all = readme.stream().filter(line -> ROW.matcher(line).matches()).count();
        due("as many rows as calls", all == calls);
    }

    private static boolean isRowOf(Matcher row, Method m) {
        if (!row.matches() || !row.group(1).equals(m.getName())) {
            return false;
        }
        int arguments = row.group(2).isEmpty() ? 0 : row.group(2).split(", ").length;
        return arguments == m.getParameterCount();
    }

    private static int examples(List<String> readme) throws IOException, ReflectiveOperationException {
        StringBuilder body = new StringBuilder();
        boolean inside = false;
        int answers = 0;
        for (String line : readme) {
            if (line.startsWith("```")) {
                inside = line.equals("```java");
            } else if (inside) {
                Matcher m = ANSWERED.matcher(line);
                if (m.matches()) {
                    answers++;
                    body.append(m.group(1)).append("due(\"").append(m.group(2)).append("\", ").append(m.group(2))
                        .append(", ").append(m.group(3)).append("L);\n");
                } else {
                    body.append(line).append('\n');
                }
            }
        }
        run(body.toString());
        return answers;
    }

    private static void run(String body) throws IOException, ReflectiveOperationException {
        String source = "public final class ReadmeExample {\n"
            + "static int wrong = 0;\n"
            + "static void due(String call, long got, long want) { if (got != want) { wrong++;\n"
            + "System.out.println(call + \" answered \" + got + \", README.md says \" + want); } }\n"
            + "public static int run() {\n" + body + "return wrong;\n}\n}\n";
        JavaCompiler compiler = ToolProvider.getSystemJavaCompiler();
        due("there is a compiler here", compiler != null);
        if (compiler == null) {
            return;
        }
        Path place = Files.createTempDirectory("readme");
        try {
            Path file = Files.writeString(place.resolve("ReadmeExample.java"), source);
            int failed = compiler.run(null, null, null, "-proc:none", "-cp", System.getProperty("java.class.path"),
                "-d", place.toString(), file.toString());
            due("the examples compile", failed == 0);
            if (failed == 0) {
                try (URLClassLoader loader = new URLClassLoader(new URL[] {place.toUri().toURL()})) {
                    wrong += (int) loader.loadClass("ReadmeExample").getMethod("run").invoke(null);
                }
            }
        } finally {
            remove(place);
        }
    }

    private static void remove(Path place) throws IOException {
        try (Stream<Path> all = Files.walk(place)) {
            for (Path p : all.sorted(Comparator.reverseOrder()).toList()) {
                Files.delete(p);
            }
        }
    }
}
