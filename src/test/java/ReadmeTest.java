import java.io.IOException;
import java.nio.file.Files;
import java.nio.file.Path;
import java.util.NoSuchElementException;
import java.util.regex.Matcher;
import java.util.regex.Pattern;

/**
 * README.md: its lines of Java are built and run as they stand there, and each answer told behind one
 * ("// = 12 LINES", "// throws NoSuchElementException") is held against the class.
 */
public final class ReadmeTest {
    private static final Check CHECK = new Check();
    private static final Pattern ASKED = Pattern.compile("^(\\S.*); // (?:= ('.'|-?\\w+)|throws (\\w+)).*$");

    /** What the example asks of the class, line by line. */
    public interface Call {
        Object answer();
    }

    private ReadmeTest() {
    }

    public static void main(String[] args) throws Exception {
        String readme = Files.readString(Path.of("README.md"));
        everyCallIsNamed(readme);
        Path made = Files.createTempDirectory("readme");
        Path source = made.resolve("ReadmeExample.java");
        Files.writeString(source, example(readme));
        String classes = System.getProperty("java.class.path");
        int built = new ProcessBuilder("javac", "-cp", classes, "-d", made.toString(), source.toString()).inheritIO().start().waitFor();
        CHECK.eq("the example can be built", built, 0);
        if (built == 0) {
            try (java.net.URLClassLoader loader = new java.net.URLClassLoader(new java.net.URL[] {made.toUri().toURL()})) {
                loader.loadClass("ReadmeExample").getMethod("run").invoke(null);
            }
        }
        remove(made);
        CHECK.close("ReadmeTest");
    }

    private static void everyCallIsNamed(String readme) {
        for (java.lang.reflect.Method m : WasteBrook.class.getDeclaredMethods()) {
            if (java.lang.reflect.Modifier.isPublic(m.getModifiers())) {
                CHECK.yes("README.md names " + m.getName(), readme.contains("`" + m.getName() + "`"));
            }
        }
    }

    /** All blocks of Java together: what is static beside run(), all else in it. */
    private static String example(String readme) {
        StringBuilder beside = new StringBuilder();
        StringBuilder run = new StringBuilder();
        Matcher block = Pattern.compile("(?s)```java\\n(.*?)```").matcher(readme);
        int asked = 0;
        while (block.find()) {
            if (block.group(1).startsWith("static")) {
                beside.append(block.group(1));
                continue;
            }
            for (String line : block.group(1).split("\n")) {
                Matcher m = ASKED.matcher(line);
                if (m.matches()) {
                    asked++;
                    String due = m.group(2) == null ? "throws " + m.group(3) : m.group(2);
                    run.append("ReadmeTest.due(\"").append(m.group(1)).append("\", \"").append(due).append("\", () -> ").append(m.group(1)).append(");\n");
                } else {
                    CHECK.no("an answer that can't be read: " + line, line.contains("//"));
                    run.append(line).append('\n');
                }
            }
        }
        CHECK.yes("the example asks: " + asked, asked > 40);
        return "public class ReadmeExample {\n" + beside + "public static void run() {\n" + run + "}\n}\n";
    }

    /** The example calls this for each of its lines that tells an answer. */
    public static void due(String line, String due, Call call) {
        String got;
        try {
            got = String.valueOf(call.answer());
        } catch (NoSuchElementException e) {
            got = "throws NoSuchElementException";
        }
        CHECK.same(line, got, due.startsWith("'") ? String.valueOf((int) due.charAt(1)) : due);
    }

    private static void remove(Path made) throws IOException {
        try (java.nio.file.DirectoryStream<Path> files = Files.newDirectoryStream(made)) {
            for (Path file : files) {
                Files.delete(file);
            }
        }
        Files.delete(made);
    }
}
