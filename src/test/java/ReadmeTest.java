import java.net.URL;
import java.net.URLClassLoader;
import java.nio.file.Files;
import java.nio.file.Path;
import java.util.ArrayList;
import java.util.List;
import java.util.regex.Matcher;
import java.util.regex.Pattern;
import java.util.stream.Stream;
import javax.tools.JavaCompiler;
import javax.tools.ToolProvider;

/** What README.md shows: its examples are compiled and run, and every call of the face stands there. */
public final class ReadmeTest {
    private static final Pattern ANSWERED = Pattern.compile("(x\\.\\w+\\(.*\\)); +// (-?\\d+|[A-Z]+)(: .*)?");

    public static void main(String[] args) throws Exception {
        Check check = new Check("ReadmeTest");
        List<String> lines = Files.readAllLines(Path.of("README.md"));
        List<String> example = example(lines);
        answers(check, example);
        everyCallIsShown(check, example);
        everyCallIsInTheTable(check, lines);
        everyTestIsTold(check, String.join("\n", lines));
        check.end();
    }

    /** The lines of all blocks of Java, one behind another. */
    private static List<String> example(List<String> lines) {
        List<String> example = new ArrayList<>();
        boolean inside = false;
        for (String line : lines) {
            if (line.startsWith("```")) {
                inside = line.equals("```java");
            } else if (inside) {
                example.add(line);
            }
        }
        return example;
    }

    private static void answers(Check check, List<String> example) throws Exception {
        StringBuilder body = new StringBuilder();
        int shown = 0;
        for (String line : example) {
            Matcher call = ANSWERED.matcher(line);
            if (call.matches()) {
                body.append(asked(call.group(1), call.group(2)));
                shown++;
            } else {
                check.due("a call with an answer of no known form: " + line, line.startsWith("x.") ? 1 : 0, 0);
                body.append(line).append('\n');
            }
        }
        check.due("there are examples", shown > 0 ? 1 : 0, 1);
        List<String> told = new ArrayList<>();
        List<long[]> answers = new ArrayList<>();
        run(body.toString(), told, answers);
        check.due("all examples are run", answers.size(), shown);
        for (int k = 0; k < answers.size(); k++) {
            check.due(told.get(k), answers.get(k)[0], answers.get(k)[1]);
        }
    }

    /** Java that keeps a call, its answer and the one that is due, a number or a constant of the class. */
    private static String asked(String call, String due) {
        String wanted = Character.isLetter(due.charAt(0)) ? "FaceGlass." + due : due + "L";
        return "told.add(\"" + call + "\"); answers.add(new long[] {" + call + ", " + wanted + "});\n";
    }

    private static void run(String body, List<String> told, List<long[]> answers) throws Exception {
        Path place = Files.createTempDirectory("readme");
        try {
            Path source = place.resolve("ReadmeExample.java");
            Files.writeString(source, "public final class ReadmeExample {\n"
                + "public static void run(java.util.List<String> told, java.util.List<long[]> answers) {\n"
                + body + "}\n}\n");
            JavaCompiler compiler = ToolProvider.getSystemJavaCompiler();
            int failed = compiler.run(null, null, null, "--release", "17", "-cp", System.getProperty("java.class.path"),
                "-d", place.toString(), source.toString());
            if (failed == 0) {
                load(place).getMethod("run", List.class, List.class).invoke(null, told, answers);
            }
        } finally {
            clear(place);
        }
    }

    private static Class<?> load(Path place) throws Exception {
        try (URLClassLoader loader = new URLClassLoader(new URL[] {place.toUri().toURL()})) {
            return loader.loadClass("ReadmeExample");
        }
    }

    private static void clear(Path place) throws Exception {
        try (Stream<Path> files = Files.list(place)) {
            for (Path file : files.toList()) {
                Files.delete(file);
            }
        }
        Files.delete(place);
    }

    private static void everyCallIsShown(Check check, List<String> example) {
        String all = String.join("\n", example);
        for (String name : Calls.NAMES) {
            check.due("an example of " + name, all.contains("x." + name + "(") ? 1 : 0, 1);
        }
    }

    private static void everyCallIsInTheTable(Check check, List<String> lines) {
        StringBuilder table = new StringBuilder();
        for (String line : lines) {
            table.append(line.startsWith("| `") ? line.substring(0, line.indexOf('|', 1)) : "");
        }
        for (String name : Calls.NAMES) {
            check.due("the table's " + name, table.indexOf("`" + name + "(") >= 0 ? 1 : 0, 1);
        }
    }

    private static void everyTestIsTold(Check check, String readme) throws Exception {
        try (Stream<Path> files = Files.list(Path.of("src/test/java"))) {
            for (Path file : files.toList()) {
                String name = file.getFileName().toString().replace(".java", "");
                if (name.endsWith("Test") && !name.startsWith("Promise")) {
                    check.due("what README.md says of " + name, readme.contains("`" + name + "`") ? 1 : 0, 1);
                }
            }
        }
    }
}
