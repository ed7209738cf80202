import java.io.File;
import java.io.IOException;
import java.net.URL;
import java.net.URLClassLoader;
import java.nio.file.Files;
import java.nio.file.Path;
import java.util.ArrayList;
import java.util.List;
import java.util.regex.Matcher;
import java.util.regex.Pattern;
import javax.tools.JavaCompiler;
import javax.tools.ToolProvider;

/**
 * README.md: its example compiles as it stands there and gives the answers that stand behind its calls
 * ("x.worth();  // 17, .."), and it names every test and the command that runs them.
 */
public final class ReadmeTest {
    private static final Pattern BLOCK = Pattern.compile("(?s)```java\n(.*?)```");
    private static final Pattern ANSWERED = Pattern.compile("\\s*(x\\.\\w+\\([^;]*\\));\\s*// (-?\\d+)\\b.*");
    private static final int LEAST_ANSWERS = 10;

    public static void main(String[] args) throws IOException, ReflectiveOperationException {
        String readme = Files.readString(Path.of("README.md"));
        example(readme);
        tests(readme);
        Due.close("ReadmeTest");
    }

    private static void example(String readme) throws IOException, ReflectiveOperationException {
        List<String> calls = new ArrayList<>();
        List<Long> due = new ArrayList<>();
        StringBuilder code = new StringBuilder();
        Matcher block = BLOCK.matcher(readme);
        while (block.find()) {
            for (String line : block.group(1).split("\n")) {
                Matcher answered = ANSWERED.matcher(line);
                if (answered.matches()) {
                    calls.add(answered.group(1));
                    due.add(Long.parseLong(answered.group(2)));
                    code.append("answers.add((long) ").append(answered.group(1)).append(");\n");
                } else {
                    code.append(line).append("\n");
                }
            }
        }
        Due.holds("answers in the example: " + calls.size(), calls.size() >= LEAST_ANSWERS);
        List<?> answers = answers(code.toString());
        Due.is("calls of the example that answer", answers.size(), calls.size());
        for (int i = 0; i < Math.min(calls.size(), answers.size()); i++) {
            Due.is("README: " + calls.get(i), (Long) answers.get(i), due.get(i));
        }
    }

    private static List<?> answers(String code) throws IOException, ReflectiveOperationException {
        JavaCompiler compiler = ToolProvider.getSystemJavaCompiler();
        Path folder = Files.createTempDirectory("readme");
        Path source = folder.resolve("ReadmeExample.java");
        try {
            Files.writeString(source, "public final class ReadmeExample {\npublic static java.util.List<Long> answers() {\n"
                + "java.util.List<Long> answers = new java.util.ArrayList<>();\n" + code + "return answers;\n}\n}\n");
            int wrong = compiler.run(null, null, null, "-cp", System.getProperty("java.class.path"),
                "-d", folder.toString(), source.toString());
            Due.is("javac of the example", wrong, 0);
            if (wrong != 0) {
                return List.of();
            }
            try (URLClassLoader loader = new URLClassLoader(new URL[] {folder.toUri().toURL()})) {
                return (List<?>) loader.loadClass("ReadmeExample").getMethod("answers").invoke(null);
            }
        } finally {
            for (File file : folder.toFile().listFiles()) {
                Files.delete(file.toPath());
            }
            Files.delete(folder);
        }
    }

    private static void tests(String readme) {
        Due.holds("README names .ci/run", readme.contains("\n    .ci/run\n"));
        for (File file : new File("src/test/java").listFiles()) {
            String name = file.getName().replace(".java", "");
            Due.holds("README names " + name, readme.contains("`" + name + "`"));
        }
        for (String call : Calls.names()) {
            Due.holds("README names " + call + "()", readme.matches("(?s).*`" + call + "[`(].*"));
        }
    }
}
