import java.io.IOException;
import java.net.URL;
import java.net.URLClassLoader;
import java.nio.file.Files;
import java.nio.file.Path;
import java.util.Comparator;
import java.util.List;
import java.util.regex.Matcher;
import java.util.regex.Pattern;
import java.util.stream.Stream;
import javax.tools.ToolProvider;

/** The code of README.md, compiled and run as one program: each call answers what stands behind it. */
public final class ReadmeTest {
    private static final Path FILE = Path.of("README.md");
    private static final Pattern TOLD = Pattern.compile("(?:(\\w+ (\\w+)) = )?(.*);\\s+// is (.*)");
    private static final int FEWEST = 40;

    private ReadmeTest() {
    }

    /** What the program on the page tells of its answers. */
    public interface Teller {
        void tell(String call, Object got, Object due);
    }

    public static void main(String[] args) throws Exception {
        Path place = Files.createTempDirectory("readme");
        try {
            run(place, program(Files.readAllLines(FILE)));
        } finally {
            remove(place);
        }
        Check.finish("ReadmeTest");
    }

    private static String program(List<String> page) {
        StringBuilder body = new StringBuilder();
        boolean isCode = false;
        int told = 0;
        for (String line : page) {
            if (line.startsWith("```")) {
                isCode = line.equals("```java");
                continue;
            }
            Matcher answer = TOLD.matcher(line);
            if (!isCode) {
                continue;
            }
            if (!answer.matches()) {
                body.append(line).append('\n');
                continue;
            }
            told++;
            String name = answer.group(2);
            if (name != null) {
                body.append(answer.group(1)).append(" = ").append(answer.group(3)).append(";\n");
            }
            body.append("teller.tell(\"").append(answer.group(3)).append("\", ")
                .append(name != null ? name : answer.group(3)).append(", ").append(answer.group(4)).append(");\n");
        }
        Check.same("answers told on the page, at least " + FEWEST, told >= FEWEST, true);
        return "public final class ReadmeProgram { public static void run(ReadmeTest.Teller teller) {\n" + body + "}}\n";
    }

    private static void run(Path place, String program) throws Exception {
        Path file = place.resolve("ReadmeProgram.java");
        Files.writeString(file, program);
        int failed = ToolProvider.getSystemJavaCompiler().run(null, null, null, "-cp",
            System.getProperty("java.class.path"), "-d", place.toString(), file.toString());
        Check.same("the code on the page compiles", failed, 0);
        if (failed != 0) {
            return;
        }
        try (URLClassLoader loader = new URLClassLoader(new URL[] {place.toUri().toURL()})) {
            Teller teller = Check::same;
            loader.loadClass("ReadmeProgram").getMethod("run", Teller.class).invoke(null, teller);
        }
    }

    private static void remove(Path place) throws IOException {
        try (Stream<Path> all = Files.walk(place)) {
            for (Path path : all.sorted(Comparator.reverseOrder()).toList()) {
                Files.delete(path);
            }
        }
    }
}
