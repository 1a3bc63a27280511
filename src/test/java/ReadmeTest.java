import java.net.URL;
import java.net.URLClassLoader;
import java.nio.file.Files;
import java.nio.file.Path;
import java.util.ArrayList;
import java.util.Comparator;
import java.util.List;
import java.util.regex.Matcher;
import java.util.regex.Pattern;
import java.util.stream.Stream;
import javax.tools.ToolProvider;

/** The code of README.md compiles, and each call in it answers what the README says behind it. */
public final class ReadmeTest {
    private static final Pattern BLOCK = Pattern.compile("```java\n(.*?)```", Pattern.DOTALL);
    private static final Pattern CALL = Pattern.compile("(?m)^(x\\.\\w+\\([^;]*\\));\\s+// (-?\\d+)\\b");

    private ReadmeTest() {
    }

    public static void main(String[] args) throws Exception {
        List<String> blocks = new ArrayList<>();
        Matcher block = BLOCK.matcher(Files.readString(Path.of("README.md")));
        while (block.find()) {
            blocks.add(block.group(1));
        }
        Check.due("blocks of code in the README", blocks.size(), 2);
        List<String> calls = new ArrayList<>();
        List<Long> want = new ArrayList<>();
        Matcher call = CALL.matcher(blocks.get(1));
        while (call.find()) {
            calls.add(call.group(1));
            want.add(Long.valueOf(call.group(2)));
        }
        String body = CALL.matcher(blocks.get(1)).replaceAll("got.add((long) $1); //");
        Check.due("calls without an answer behind them", Pattern.compile("(?m)^x\\.").matcher(body).find() ? 1 : 0, 0);
        List<?> got = run("public final class Readme {\n" + blocks.get(0)
                + "public static java.util.List<Long> answers() {\njava.util.List<Long> got = new java.util.ArrayList<>();\n"
                + body + "return got;\n}\n}\n");
        Check.due("calls of the README", got.size(), want.size());
        for (int i = 0; i < Math.min(got.size(), want.size()); i++) {
            Check.due(calls.get(i), (Long) got.get(i), want.get(i));
        }
        Check.finish("ReadmeTest");
    }

    private static List<?> run(String source) throws Exception {
        Path work = Files.createTempDirectory("readme");
        Path file = work.resolve("Readme.java");
        Files.writeString(file, source);
        int failed = ToolProvider.getSystemJavaCompiler().run(null, null, null, "-cp", System.getProperty("java.class.path"),
                "-d", work.toString(), file.toString());
        Check.due("javac of the README's code", failed, 0);
        try (URLClassLoader loader = new URLClassLoader(new URL[] {work.toUri().toURL()})) {
            return failed != 0 ? List.of() : (List<?>) loader.loadClass("Readme").getMethod("answers").invoke(null);
        } finally {
            remove(work);
        }
    }

    private static void remove(Path directory) throws Exception {
        try (Stream<Path> files = Files.walk(directory)) {
            for (Path each : files.sorted(Comparator.reverseOrder()).toList()) {
                Files.delete(each);
            }
        }
    }
}
