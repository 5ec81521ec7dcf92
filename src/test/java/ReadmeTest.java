import java.io.ByteArrayOutputStream;
import java.io.IOException;
import java.io.PrintStream;
import java.lang.reflect.Method;
import java.lang.reflect.Modifier;
import java.net.URL;
import java.net.URLClassLoader;
import java.nio.file.Files;
import java.nio.file.Path;
import java.util.List;
import java.util.spi.ToolProvider;

/** What README.md says of the class works as it is written. */
public final class ReadmeTest {
    private final String readme;

    private ReadmeTest(String readme) {
        this.readme = readme;
    }

    public static void main(String[] args) throws Exception {
        ReadmeTest test = new ReadmeTest(Files.readString(Path.of("README.md")));
        test.theExample();
        test.everyCall();
        test.everyTest();
        test.theFiles();
        Check.end("ReadmeTest");
    }

    /** What stands in the first block of a sort, to the letter. */
    private String block(String sort) {
        String head = "\n```" + sort + "\n";
        int from = readme.indexOf(head);
        int to = from < 0 ? -1 : readme.indexOf("\n```\n", from + head.length());
        Check.due("README has a block of " + sort, to >= 0, true);
        return to < 0 ? "" : readme.substring(from + head.length(), to + 1);
    }

    private void theExample() throws Exception {
        Path folder = Files.createTempDirectory("readme");
        try {
            Path source = Files.writeString(folder.resolve("Example.java"), block("java"));
            int exit = ToolProvider.findFirst("javac").orElseThrow().run(System.out, System.out, "-Xlint:all",
                "-Werror", "-cp", System.getProperty("java.class.path"), "-d", folder.toString(), source.toString());
            Check.due("compiling README's example", exit, 0);
            Check.due("README's example", exit == 0 ? printed(folder) : "", block("text"));
        } finally {
            remove(folder);
        }
    }

    private static String printed(Path folder) throws Exception {
        PrintStream before = System.out;
        ByteArrayOutputStream bytes = new ByteArrayOutputStream();
        try (URLClassLoader loader = new URLClassLoader(new URL[] {folder.toUri().toURL()})) {
            System.setOut(new PrintStream(bytes, true));
            loader.loadClass("Example").getMethod("main", String[].class).invoke(null, (Object) new String[0]);
        } finally {
            System.setOut(before);
        }
        return bytes.toString().replace("\r\n", "\n");
    }

    private static void remove(Path folder) throws IOException {
        try (var files = Files.list(folder)) {
            for (Path file : files.toList()) {
                Files.delete(file);
            }
        }
        Files.delete(folder);
    }

    private void everyCall() {
        for (Method m : VolcanoWatch.class.getDeclaredMethods()) {
            if (Modifier.isPublic(m.getModifiers())) {
                Check.due("README tells of " + m.getName(), readme.contains("`" + m.getName() + "("), true);
            }
        }
    }

    private void everyTest() throws IOException {
        try (var files = Files.list(Path.of("src/test/java"))) {
            for (Path file : files.toList()) {
                String name = file.getFileName().toString().replace(".java", "");
                boolean told = !name.endsWith("Test") || readme.contains("`" + name + "`");
                Check.due("README tells of " + name, told, true);
            }
        }
    }

    private void theFiles() {
        for (String name : List.of("src/main/java/VolcanoWatch.java", "src/test/java", ".ci/run",
                "../shared/DOC.md", "../shared/LANGUAGE.md", "../shared/tests")) {
            boolean there = Files.exists(Path.of(name));
            Check.due("README tells of " + name + ", which is there", readme.contains(name) && there, true);
        }
    }
}
