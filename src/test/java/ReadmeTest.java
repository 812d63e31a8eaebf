import java.io.File;
import java.io.IOException;
import java.lang.reflect.Method;
import java.lang.reflect.Modifier;
import java.nio.charset.StandardCharsets;
import java.nio.file.Files;
import java.nio.file.Path;
import java.util.Objects;

/** What README.md shows can be run as it stands there, and it leaves no call and no test out. */
public final class ReadmeTest {
    private static final Checks c = new Checks();

    public static void main(String[] args) throws IOException, InterruptedException {
        String page = Files.readString(Path.of("README.md"));
        c.sameText("README.md's program", printedBy(block(page, "java")), block(page, "text"));
        namesAllCalls(page);
        namesAllTests(page);
        c.end("ReadmeTest");
    }

    /** What stands between the first fence of a kind and the next fence. */
    private static String block(String page, String kind) {
        String fence = "```" + kind + "\n";
        int begin = page.indexOf(fence);
        int end = begin < 0 ? -1 : page.indexOf("```", begin + fence.length());
        c.yes("README.md has a block of " + kind, end >= 0);
        return end < 0 ? "" : page.substring(begin + fence.length(), end);
    }

    private static String printedBy(String program) throws IOException, InterruptedException {
        Path directory = Files.createTempDirectory("readme");
        Path file = directory.resolve("Harbour.java");
        Files.writeString(file, program);
        try {
            String java = Path.of(System.getProperty("java.home"), "bin", "java").toString();
            Process run = new ProcessBuilder(java, "-cp", System.getProperty("java.class.path"), file.toString())
                    .redirectErrorStream(true).start();
            String printed = new String(run.getInputStream().readAllBytes(), StandardCharsets.UTF_8);
            c.same("the exit code of README.md's program", run.waitFor(), 0);
            return printed.replace("\r\n", "\n");
        } finally {
            Files.delete(file);
            Files.delete(directory);
        }
    }

    private static void namesAllCalls(String page) {
        for (Method method : ColdStores.class.getDeclaredMethods()) {
            if (Modifier.isPublic(method.getModifiers())) {
                c.yes("README.md names " + method.getName(), page.contains("`" + method.getName() + "`"));
            }
        }
    }

    private static void namesAllTests(String page) {
        for (File file : Objects.requireNonNull(new File("src/test/java").listFiles())) {
            String name = file.getName().replace(".java", "");
            if (name.endsWith("Test")) {
                c.yes("README.md names " + name, page.contains("`" + name + "`"));
            }
        }
    }
}
