import java.io.ByteArrayOutputStream;
import java.io.IOException;
import java.nio.charset.StandardCharsets;
import java.nio.file.Files;
import java.nio.file.Path;
import java.util.ArrayList;
import java.util.List;
import java.util.regex.Matcher;
import java.util.regex.Pattern;
import javax.tools.ToolProvider;

/** README.md's example, compiled and run as it is printed there: its answers hold. */
public final class ReadmeTest {
    private static final Path SOURCE = Path.of("src/main/java/SlowWells.java");

    public static void main(String[] args) throws IOException, InterruptedException {
        String readme = Files.readString(Path.of("README.md"));
        String example = block(readme, "java"), want = block(readme, "text");
        if (example.isEmpty() || want.isEmpty() || !block(readme, "sh").strip().equals(".ci/run")) {
            fail("README.md has no example, no answers of it, or not the command that runs the tests");
        }
        Path place = Files.createTempDirectory("readme");
        String got;
        try {
            got = run(place, example);
        } finally {
            clear(place);
        }
        if (!got.equals(want)) {
            fail("the example prints\n" + got + "and README.md says\n" + want);
        }
        System.out.println("the example's " + want.lines().count() + " answers hold");
    }

    /** The first block of README.md that is marked so. */
    private static String block(String readme, String mark) {
        Matcher m = Pattern.compile("(?ms)^```" + mark + "\n(.*?)^```$").matcher(readme);
        return m.find() ? m.group(1) : "";
    }

    private static String run(Path place, String example) throws IOException, InterruptedException {
        Path file = place.resolve("Example.java");
        Files.writeString(file, example);
        ByteArrayOutputStream faults = new ByteArrayOutputStream();
        int code = ToolProvider.getSystemJavaCompiler().run(null, faults, faults, "-d", place.toString(),
            SOURCE.toString(), file.toString());
        if (code != 0) {
            fail("the example does not compile: " + faults);
        }
        String java = Path.of(System.getProperty("java.home"), "bin", "java").toString();
        Process process = new ProcessBuilder(java, "-cp", place.toString(), "Example").redirectErrorStream(true).start();
        String said = new String(process.getInputStream().readAllBytes(), StandardCharsets.UTF_8);
        process.waitFor();
        return said.replace("\r\n", "\n");
    }

    private static void clear(Path place) throws IOException {
        List<Path> files = new ArrayList<>();
        try (var all = Files.list(place)) {
            all.forEach(files::add);
        }
        for (Path file : files) {
            Files.delete(file);
        }
        Files.delete(place);
    }

    private static void fail(String why) {
        throw new IllegalStateException(why);
    }
}
