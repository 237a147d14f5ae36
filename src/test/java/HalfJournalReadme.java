import java.io.IOException;
import java.lang.reflect.Method;
import java.lang.reflect.Modifier;
import java.net.URL;
import java.net.URLClassLoader;
import java.nio.file.Files;
import java.nio.file.Path;
import java.util.ArrayList;
import java.util.List;
import java.util.regex.Matcher;
import java.util.regex.Pattern;
import javax.tools.ToolProvider;

/** What README.md says: each answer of its example, and that it names every call of the class. */
public final class HalfJournalReadme {
    private static final Pattern EXAMPLE = Pattern.compile("```java\\n(.*?)```", Pattern.DOTALL);
    private static final Pattern CALL_WITH_ANSWER =
        Pattern.compile("(journal\\..*\\));\\s+// (true|false|NONE|-?\\d+|\\w+Exception)(:.*)?");
    private static final int LEAST_ANSWERS = 20;

    private static int wrong = 0;

    public static void main(String[] args) throws Exception {
        String readme = Files.readString(Path.of("README.md"));
        everyCallIsNamed(readme);
        examplesAnswer(readme);
        System.out.println(wrong == 0 ? "README.md holds" : wrong + " things in README.md are not as due");
        if (wrong != 0) {
            System.exit(1);
        }
    }

    private static void everyCallIsNamed(String readme) {
        for (Method method : HalfJournal.class.getDeclaredMethods()) {
            if (Modifier.isPublic(method.getModifiers())) {
                due("a row for " + method.getName(), readme.contains("\n| `" + method.getName() + "("), true);
            }
        }
        due("how to run the tests", readme.contains("\n    .ci/run\n"), true);
    }

    private static void examplesAnswer(String readme) throws Exception {
        Matcher example = EXAMPLE.matcher(readme);
        if (!example.find()) {
            due("an example", false, true);
            return;
        }
        List<String> calls = new ArrayList<>();
        List<String> answers = new ArrayList<>();
        StringBuilder body = new StringBuilder();
        for (String line : example.group(1).split("\\n")) {
            Matcher call = CALL_WITH_ANSWER.matcher(line);
            if (call.matches()) {
                calls.add(call.group(1));
                answers.add(call.group(2).replace("NONE", "" + HalfJournal.NONE));
                body.append("try { told.add(\"\" + ").append(call.group(1)).append("); }\n");
                body.append("catch (RuntimeException e) { told.add(e.getClass().getSimpleName()); }\n");
            } else {
                body.append(line).append("\n");
            }
        }
        due("enough answers", calls.size() >= LEAST_ANSWERS, true);
        List<String> told = run(body.toString());
        due("answers in all", told.size(), answers.size());
        for (int i = 0; i < Math.min(told.size(), answers.size()); i++) {
            due(calls.get(i), told.get(i), answers.get(i));
        }
    }

    /** The example is compiled as it stands in README.md, so that it can't say what the class has not. */
    private static List<String> run(String body) throws Exception {
        Path dir = Files.createTempDirectory("readme");
        try {
            Path source = dir.resolve("Example.java");
            Files.writeString(source, "public class Example { public static void run(java.util.List<String> told) {\n"
                + body + "} }\n");
            int result = ToolProvider.getSystemJavaCompiler().run(null, null, null,
                "-cp", System.getProperty("java.class.path"), "-d", dir.toString(), source.toString());
            due("exit code of the compiler", result, 0);
            List<String> told = new ArrayList<>();
            if (result == 0) {
                try (URLClassLoader loader = new URLClassLoader(new URL[] {dir.toUri().toURL()})) {
                    loader.loadClass("Example").getMethod("run", List.class).invoke(null, told);
                }
            }
            return told;
        } finally {
            clear(dir);
        }
    }

    private static void clear(Path dir) throws IOException {
        Files.deleteIfExists(dir.resolve("Example.class"));
        Files.deleteIfExists(dir.resolve("Example.java"));
        Files.deleteIfExists(dir);
    }

    private static void due(String what, Object got, Object want) {
        if (!got.equals(want)) {
            wrong++;
            System.out.println(what + ": answered " + got + ", due is " + want);
        }
    }
}
