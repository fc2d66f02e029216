import java.io.ByteArrayOutputStream;
import java.io.IOException;
import java.io.PrintStream;
import java.lang.reflect.Field;
import java.lang.reflect.Method;
import java.lang.reflect.Modifier;
import java.nio.file.Files;
import java.nio.file.Path;

/** README.md shows an example that is as it says, and leaves out nothing of the public face. */
public final class ReadmeTest {
    public static void main(String[] args) throws IOException {
        Due due = new Due();
        String readme = Files.readString(Path.of("README.md"));
        String example = Files.readString(Path.of("src/test/java/ReadmeExample.java"));
        due.yes("README.md shows the example", readme.contains("```java\n" + example + "```"));
        due.yes("README.md shows what it prints", readme.contains("```text\n" + printed() + "```"));
        for (Method method : AdviceLinks.class.getDeclaredMethods()) {
            if (Modifier.isPublic(method.getModifiers())) {
                due.yes("README.md names " + method.getName(), readme.contains("`" + method.getName() + "("));
            }
        }
        for (Field field : AdviceLinks.class.getFields()) {
            due.yes("README.md names " + field.getName(), readme.contains("`" + field.getName() + "`"));
        }
        due.yes("README.md tells how the tests are run", readme.contains("```sh\n.ci/run\n```"));
        namesEveryTest(due, readme);
        due.end();
    }

    private static String printed() {
        PrintStream before = System.out;
        ByteArrayOutputStream bytes = new ByteArrayOutputStream();
        System.setOut(new PrintStream(bytes, true));
        ReadmeExample.main(new String[0]);
        System.setOut(before);
        return bytes.toString().replace(System.lineSeparator(), "\n");
    }

    private static void namesEveryTest(Due due, String readme) throws IOException {
        try (var files = Files.newDirectoryStream(Path.of("src/test/java"), "*Test.java")) {
            for (Path file : files) {
                String name = file.getFileName().toString().replace(".java", "");
                due.yes("README.md names " + name, readme.contains("| `" + name + "` |"));
            }
        }
    }
}
