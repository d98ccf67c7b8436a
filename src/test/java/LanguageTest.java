import java.io.IOException;
import java.nio.file.Files;
import java.nio.file.Path;
import java.util.regex.Matcher;
import java.util.regex.Pattern;

/** Those rules of LANGUAGE.md that can be seen in the words of the program. */
final class LanguageTest {
    private static final Pattern FORBIDDEN = Pattern.compile("\\b(throws?|try|catch|finally|synchronized|assert|package"
            + "|protected|native|volatile|transient|System\\.(?!arraycopy)\\w*|\\w*Exact|toString|hashCode)\\b|->|::");
    private static final int LONGEST_METHOD = 60;

    public static void main(String[] args) throws IOException {
        String source = Files.readString(Path.of("src/main/java/TurnedRows.java"));
        String code = source.replaceAll("(?s)/\\*.*?\\*/", "").replaceAll("//.*", "");
        Matcher forbidden = FORBIDDEN.matcher(code);
        while (forbidden.find()) {
            Checks.dueText("a word that LANGUAGE.md does not leave", forbidden.group(), "");
        }
        imports(code);
        methods(source);
        Checks.end();
    }

    private static void imports(String code) {
        for (String line : code.split("\n")) {
            if (line.startsWith("import")) {
                Checks.dueText("an import", line, "import java.util.Arrays;");
            }
        }
    }

    private static void methods(String source) {
        Matcher method = Pattern.compile("(?sm)^( +)(?!private static final class)[^\\n/*]*\\) \\{\\n.*?^\\1\\}").matcher(source);
        int many = 0;
        while (method.find()) {
            many++;
            int lines = method.group().split("\n").length;
            Checks.due("a method too long: " + method.group().lines().findFirst().orElse(""),
                    lines > LONGEST_METHOD ? lines : 0, 0);
        }
        Checks.due("that methods are found", Math.min(many, 26), 26);
    }
}
