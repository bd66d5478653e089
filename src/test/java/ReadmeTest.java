import java.net.URL;
import java.net.URLClassLoader;
import java.nio.charset.StandardCharsets;
import java.nio.file.Files;
import java.nio.file.Path;
import java.nio.file.Paths;
import java.util.ArrayList;
import java.util.List;
import java.util.regex.Matcher;
import java.util.regex.Pattern;
import java.util.stream.Stream;
import javax.tools.ToolProvider;

/** The Java code of README.md, compiled and run: each call must answer what the page says behind it. */
public final class ReadmeTest {
    private static final Pattern BLOCK = Pattern.compile("(?s)```java\n(.*?)```");
    private static final Pattern ANSWERED = Pattern.compile("(.*?); +// ([^:]+)(:.*)?");

    private final StringBuilder members = new StringBuilder();
    private final StringBuilder statements = new StringBuilder();
    private final List<String> calls = new ArrayList<>();
    private final List<String> due = new ArrayList<>();

    public static void main(String[] args) throws Exception {
        Path page = Paths.get(System.getProperty("readme", "README.md"));
        new ReadmeTest().look(new String(Files.readAllBytes(page), StandardCharsets.UTF_8));
        Check.end("ReadmeTest");
    }

    private void look(String page) throws Exception {
        Matcher block = BLOCK.matcher(page);
        while (block.find()) {
            if (block.group(1).startsWith("static ")) {
                members.append(block.group(1));
            } else {
                readStatements(block.group(1));
            }
        }
        Check.due("the page shows calls with their answers", calls.size() >= 30, true);
        String[] answers = answers();
        Check.due("as many answers as calls", answers.length, calls.size());
        for (int i = 0; i < calls.size() && i < answers.length; i++) {
            Check.due("README.md: " + calls.get(i), answers[i], due.get(i));
        }
    }

    private void readStatements(String code) {
        for (String line : code.split("\n")) {
            Matcher answered = ANSWERED.matcher(line);
            if (answered.matches()) {
                calls.add(answered.group(1));
                due.add(answered.group(2));
                statements.append("answers.append(").append(answered.group(1)).append(").append('\\n');\n");
            } else {
                statements.append(line).append('\n');
            }
        }
    }

    private String[] answers() throws Exception {
        Path folder = Files.createTempDirectory("readme");
        try {
            Path source = folder.resolve("ReadmeExample.java");
            String code = "public final class ReadmeExample {\n" + members + "public static String run() {\n"
                    + "StringBuilder answers = new StringBuilder();\n" + statements
                    + "return answers.toString();\n}\n}\n";
            Files.write(source, code.getBytes(StandardCharsets.UTF_8));
            int failed = ToolProvider.getSystemJavaCompiler().run(null, null, null, "--release", "17", "-cp",
                    System.getProperty("java.class.path"), "-d", folder.toString(), source.toString());
            Check.due("the exit code of the compiler for the page's code", failed, 0);
            return failed == 0 ? run(folder) : new String[0];
        } finally {
            remove(folder);
        }
    }

    private static String[] run(Path folder) throws Exception {
        try (URLClassLoader loader = new URLClassLoader(new URL[] {folder.toUri().toURL()},
                ReadmeTest.class.getClassLoader())) {
            return ((String) loader.loadClass("ReadmeExample").getMethod("run").invoke(null)).split("\n");
        }
    }

    private static void remove(Path folder) throws Exception {
        try (Stream<Path> files = Files.list(folder)) {
            for (Path file : (Iterable<Path>) files::iterator) {
                Files.delete(file);
            }
        }
        Files.delete(folder);
    }
}
