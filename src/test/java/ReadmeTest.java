import java.io.IOException;
import java.net.URL;
import java.net.URLClassLoader;
import java.nio.file.Files;
import java.nio.file.Path;
import java.util.ArrayList;
import java.util.List;
import java.util.regex.Matcher;
import java.util.regex.Pattern;
import javax.tools.ToolProvider;

/** The examples of README.md: they compile, and each call answers what is said behind it. */
public final class ReadmeTest {
    private static final Pattern BLOCK = Pattern.compile("```java\n(.*?)```", Pattern.DOTALL);
    private static final Pattern ANSWERED = Pattern.compile("^(proofs\\.\\w+\\([^;]*\\)); +// ([-\\w.]+)(:.*)?$");

    public static void main(String[] args) throws IOException, ReflectiveOperationException {
        List<String> blocks = new ArrayList<>();
        Matcher matcher = BLOCK.matcher(Files.readString(Path.of("README.md")));
        while (matcher.find()) {
            blocks.add(matcher.group(1));
        }
        Due.dueTrue("helpers and examples", blocks.size() > 5);
        Path folder = Files.createTempDirectory("readme");
        try {
            run(folder, classOf(blocks));
        } finally {
            Files.deleteIfExists(folder.resolve("Readme.class"));
            Files.deleteIfExists(folder.resolve("Readme.java"));
            Files.delete(folder);
        }
        Due.end("ReadmeTest");
    }

    /** The first block holds helpers; each other one is a method. */
    private static String classOf(List<String> blocks) {
        StringBuilder text = new StringBuilder("public class Readme {\n");
        text.append("static java.util.List<Object[]> told = new java.util.ArrayList<>();\n");
        text.append("static void due(String call, long got, long want) {"
                + " told.add(new Object[] {call, got, want}); }\n");
        text.append("public static java.util.List<Object[]> all() { ");
        for (int i = 1; i < blocks.size(); i++) {
            text.append("example").append(i).append("(); ");
        }
        text.append("return told; }\n").append(blocks.get(0));
        for (int i = 1; i < blocks.size(); i++) {
            text.append("static void example").append(i).append("() {\n");
            text.append("SlackProofs proofs = new SlackProofs();\n");
            for (String line : blocks.get(i).split("\n")) {
                text.append(checked(line)).append('\n');
            }
            text.append("}\n");
        }
        return text.append("}\n").toString();
    }

    private static String checked(String line) {
        Matcher matcher = ANSWERED.matcher(line);
        boolean isAnswered = matcher.matches();
        Due.dueTrue("an answer stands behind " + line, isAnswered || !line.startsWith("proofs."));
        return isAnswered ? "due(\"" + matcher.group(1) + "\", " + matcher.group(1) + ", " + matcher.group(2) + ");" : line;
    }

    private static void run(Path folder, String text) throws IOException, ReflectiveOperationException {
        Path source = Files.writeString(folder.resolve("Readme.java"), text);
        int failed = ToolProvider.getSystemJavaCompiler().run(null, null, null, "-cp",
                System.getProperty("java.class.path"), "-d", folder.toString(), source.toString());
        Due.due("the examples compile", failed, 0);
        if (failed != 0) {
            return;
        }
        try (URLClassLoader loader = new URLClassLoader(new URL[] {folder.toUri().toURL()})) {
            List<?> told = (List<?>) loader.loadClass("Readme").getMethod("all").invoke(null);
            for (Object row : told) {
                Object[] call = (Object[]) row;
                Due.due("README.md: " + call[0], (Long) call[1], (Long) call[2]);
            }
        }
    }
}
