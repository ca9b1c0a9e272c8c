import java.lang.reflect.Method;
import java.lang.reflect.Modifier;
import java.net.URL;
import java.net.URLClassLoader;
import java.nio.file.Files;
import java.nio.file.Path;
import java.util.ArrayList;
import java.util.Comparator;
import java.util.List;
import java.util.regex.Matcher;
import java.util.regex.Pattern;
import java.util.stream.Stream;
import javax.tools.JavaCompiler;
import javax.tools.ToolProvider;

/**
 * README.md names each call of the face, and its Java examples are one run that can be compiled and
 * in which each call answers the number that stands behind it. Run at the project's top.
 */
public final class ReadmeTest {
    private static final Pattern EXAMPLE = Pattern.compile("```java\n(.*?)```", Pattern.DOTALL);
    private static final Pattern CALL = Pattern.compile("((?:room\\.|text\\().*\\)); *// (-?\\d+)\\b.*");
    private static final String MADE = "ElevenMeasures room = new ElevenMeasures();";

    private final List<String> calls = new ArrayList<>();
    private final List<Long> due = new ArrayList<>();
    private final StringBuilder helpers = new StringBuilder();

    private ReadmeTest() {
    }

    public static void main(String[] args) throws Exception {
        String readme = Files.readString(Path.of("README.md"));
        namesEachCall(readme);
        ReadmeTest test = new ReadmeTest();
        test.take(readme);
        test.run();
        Check.close();
    }

    private static void namesEachCall(String readme) {
        for (Method method : ElevenMeasures.class.getDeclaredMethods()) {
            if (Modifier.isPublic(method.getModifiers())) {
                String call = method.getName() + "(";
                Check.holds("README names " + call + "..)", readme.contains("`" + call));
            }
        }
    }

    private void take(String readme) {
        Matcher example = EXAMPLE.matcher(readme);
        while (example.find()) {
            String code = example.group(1);
            if (code.startsWith("static ")) {
                helpers.append(code);
                continue;
            }
            for (String line : code.split("\n")) {
                Matcher call = CALL.matcher(line);
                boolean isCall = call.matches();
                Check.holds("README tells an answer: " + line, isCall || line.equals(MADE));
                if (isCall) {
                    calls.add(call.group(1));
                    due.add(Long.valueOf(call.group(2)));
                }
            }
        }
    }

    private void run() throws Exception {
        Path dir = Files.createTempDirectory("readme");
        try {
            List<Long> answers = answers(dir);
            for (int i = 0; i < calls.size(); i++) {
                Check.due("README: " + calls.get(i), answers.get(i), due.get(i));
            }
            Check.holds("README's run is within 512 calls", calls.size() < 400);
        } finally {
            delete(dir);
        }
    }

    /** What the calls answer, compiled as one program as a reader would. */
    private List<Long> answers(Path dir) throws Exception {
        StringBuilder code = new StringBuilder("public class ReadmeRun {\n").append(helpers);
        code.append("public static java.util.List<Long> answers() {\n");
        code.append("java.util.List<Long> all = new java.util.ArrayList<>();\n").append(MADE);
        for (String call : calls) {
            code.append("\nall.add((long) ").append(call).append(");");
        }
        code.append("\nreturn all;\n}\n}\n");
        Path file = Files.writeString(dir.resolve("ReadmeRun.java"), code);
        JavaCompiler compiler = ToolProvider.getSystemJavaCompiler();
        String path = System.getProperty("java.class.path");
        int failed = compiler.run(null, null, null, "-cp", path, "-d", dir.toString(), file.toString());
        Check.due("README's examples are compiled", failed, 0);
        List<Long> answers = new ArrayList<>();
        if (failed == 0) {
            try (URLClassLoader loader = new URLClassLoader(new URL[] {dir.toUri().toURL()})) {
                Object told = loader.loadClass("ReadmeRun").getMethod("answers").invoke(null);
                for (Object answer : (List<?>) told) {
                    answers.add((Long) answer);
                }
            }
        }
        while (answers.size() < calls.size()) {
            answers.add(Long.MIN_VALUE);
        }
        return answers;
    }

    private static void delete(Path dir) throws Exception {
        try (Stream<Path> files = Files.walk(dir)) {
            for (Path file : files.sorted(Comparator.reverseOrder()).toList()) {
                Files.delete(file);
            }
        }
    }
}
