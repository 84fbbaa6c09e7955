import java.io.ByteArrayOutputStream;
import java.io.IOException;
import java.io.PrintStream;
import java.lang.reflect.Method;
import java.lang.reflect.Modifier;
import java.nio.charset.StandardCharsets;
import java.nio.file.Files;
import java.nio.file.Path;

/** README.md shows the example as it is, with what it prints, and names each call. */
public final class ReadmeTest {
    private ReadmeTest() {
    }

    public static void main(String[] args) throws IOException {
        Checks c = new Checks("ReadmeTest");
        String readme = Files.readString(Path.of("README.md"));
        String example = Files.readString(Path.of("src/test/java/Example.java"));
        c.due("the example in README.md", blockOf(readme, "```java\n"), example);
        c.due("what the example prints", blockOf(readme, "```text\n"), printed());
        for (Method method : SpanLodge.class.getDeclaredMethods()) {
            if (Modifier.isPublic(method.getModifiers())) {
                c.due("README.md names " + method.getName(),
                        readme.contains("`" + method.getName() + "`"), true);
            }
        }
        c.end();
    }

    /** The text of the first block that is opened so. */
    private static String blockOf(String readme, String opening) {
        int start = readme.indexOf(opening);
        int end = readme.indexOf("```\n", start + opening.length());
        return start < 0 || end < 0 ? "" : readme.substring(start + opening.length(), end);
    }

    private static String printed() {
        PrintStream before = System.out;
        ByteArrayOutputStream all = new ByteArrayOutputStream();
        System.setOut(new PrintStream(all, true, StandardCharsets.UTF_8));
        try {
            Example.main(new String[0]);
        } finally {
            System.setOut(before);
        }
        return all.toString(StandardCharsets.UTF_8).replace(System.lineSeparator(), "\n");
    }
}
