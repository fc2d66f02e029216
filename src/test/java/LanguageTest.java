import java.io.IOException;
import java.nio.file.Files;
import java.nio.file.Path;
import java.util.List;
import java.util.regex.Matcher;
import java.util.regex.Pattern;

/** What a look at the text of the program can tell of the rules of LANGUAGE.md. */
public final class LanguageTest {
    private static final Path PROGRAM = Path.of("src/main/java/AdviceLinks.java");
    private static final List<String> FORBIDDEN = List.of(
        "\\b(package|import|throws?|try|catch|synchronized|assert|native|volatile|protected)\\b",
        "\\b(Object|Random|Thread|equals|hashCode|toString)\\b",
        "\\bSystem\\.(?!arraycopy)", "Exact\\(", "->", "::", "@\\w",
        "\\bstatic\\s*\\{", "\\bwhile\\s*\\(true\\)", "\\bfor\\s*\\(\\s*;\\s*;");
    private static final int MOST_PARAMETERS = 7;

    public static void main(String[] args) throws IOException {
        Due due = new Due();
        String code = withoutComments(Files.readString(PROGRAM));
        for (String pattern : FORBIDDEN) {
            due.no("the program has " + pattern, Pattern.compile(pattern).matcher(code).find());
        }
        due.yes("the program is ASCII", code.chars().allMatch(c -> c < 128));
        looksAtStaticFields(due, code);
        looksAtParameters(due, code);
        due.end();
    }

    private static String withoutComments(String text) {
        return text.replaceAll("(?s)/\\*.*?\\*/", " ").replaceAll("//[^\n]*", " ");
    }

    private static void looksAtStaticFields(Due due, String code) {
        Matcher field = Pattern.compile("\\bstatic\\b[^;{(]*[;=]").matcher(code);
        while (field.find()) {
            due.yes("final: " + field.group(), field.group().contains("final int "));
        }
    }

    private static void looksAtParameters(Due due, String code) {
        Matcher list = Pattern.compile("\\(([^()]*)\\)\\s*\\{").matcher(code);
        while (list.find()) {
            due.yes("parameters: " + list.group(1), list.group(1).split(",").length <= MOST_PARAMETERS);
        }
    }
}
