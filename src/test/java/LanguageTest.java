import java.io.IOException;
import java.nio.file.Files;
import java.nio.file.Path;
import java.util.List;
import java.util.regex.Matcher;
import java.util.regex.Pattern;

/** Those rules of LANGUAGE.md that can be seen in the words of the program. */
final class LanguageTest {
    private static final Pattern FORBIDDEN = Pattern.compile("\\b(throws?|try|catch|finally|synchronized|assert|package"
            + "|protected|native|volatile|transient|System\\.(?!arraycopy\\b)\\w*|\\w+Exact|hashCode)\\b|->|::");
    /** A block's head that is the head of a method: a type, a name, and parameters. */
    private static final Pattern METHOD = Pattern.compile("(?s)[^()]*\\b(?!if|for|while|switch)(\\w+)\\s*\\(([^()]*)\\)");
    private static final List<String> IMPORTS = List.of("import java.util.Arrays;", "import java.util.ArrayList;",
            "import java.util.List;", "import java.util.Iterator;");
    private static final int LONGEST_METHOD = 60;
    private static final int MOST_PARAMETERS = 7;

    public static void main(String[] args) throws IOException {
        String source = Files.readString(Path.of("src/main/java/TurnedRows.java"));
        String code = withoutTexts(source);
        forbidden(code);
        imports(code);
        methods(code);
        Checks.end();
    }

    /** The program with nothing in its comments, texts and signs, but with all its lines. */
    private static String withoutTexts(String source) {
        Matcher text = Pattern.compile("(?s)/\\*.*?\\*/|//[^\n]*|\"(?:[^\"\\\\]|\\\\.)*\"|'(?:[^'\\\\]|\\\\.)*'").matcher(source);
        return text.replaceAll(found -> found.group().replaceAll("[^\n]", " "));
    }

    private static void forbidden(String code) {
        // An arrow of a switch is no lambda.
        String arrowless = code.replaceAll("(case\\b[^\n:;{}]*|default\\s*)->", "$1");
        Matcher forbidden = FORBIDDEN.matcher(arrowless);
        while (forbidden.find()) {
            Checks.dueText("a word that LANGUAGE.md does not leave", forbidden.group(), "");
        }
    }

    private static void imports(String code) {
        for (String line : code.split("\n")) {
            if (line.startsWith("import")) {
                Checks.due(line + " is one that LANGUAGE.md leaves", IMPORTS.contains(line.trim()) ? 1 : 0, 1);
            }
        }
    }

    private static void methods(String code) {
        int many = 0;
        int headAt = 0;
        for (int i = 0; i < code.length(); i++) {
            char sign = code.charAt(i);
            if (sign == '{') {
                Matcher head = METHOD.matcher(code.substring(headAt, i).trim());
                if (head.matches()) {
                    many++;
                    method(head.group(1), head.group(2), code.substring(i, endOfBlock(code, i)));
                }
            }
            if (sign == '{' || sign == '}' || sign == ';') {
                headAt = i + 1;
            }
        }
        Checks.due("that methods are found", Math.min(many, 26), 26);
    }

    private static void method(String name, String parameters, String block) {
        int lines = block.split("\n").length;
        Checks.due("lines too many of " + name, lines > LONGEST_METHOD ? lines : 0, 0);
        int many = parameters.split(",").length;
        Checks.due("parameters too many of " + name, many > MOST_PARAMETERS ? many : 0, 0);
    }

    private static int endOfBlock(String code, int start) {
        int depth = 0;
        for (int i = start; i < code.length(); i++) {
            depth += code.charAt(i) == '{' ? 1 : code.charAt(i) == '}' ? -1 : 0;
            if (depth == 0) {
                return i + 1;
            }
        }
        return code.length();
    }
}
