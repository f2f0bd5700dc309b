import java.io.IOException;
import java.nio.charset.StandardCharsets;
import java.nio.file.Files;
import java.nio.file.Paths;
import java.util.regex.Matcher;
import java.util.regex.Pattern;

/** Rules of LANGUAGE.md that a text of the program shows. */
final class LanguageTests {
    private static final String[] FORBIDDEN = {
        "\\b(throw|throws|try|catch|finally|synchronized|assert|volatile|transient|native|instanceof)\\b",
        "->", "::", "\\b\\w+Exact\\b", "\\b(Object|Thread|System\\.(?!arraycopy)\\w+|Random|Scanner|Locale)\\b",
        "\\b(equals|hashCode|getClass|clone)\\b", "\\bstatic\\s*\\{", "\\b(float|double)\\b", "\\bnew\\s+\\w+\\s*\\(\\)\\s*\\{",
        "\"\\s*\\+", "\\+\\s*\"", "^package\\b"
    };
    private static final Pattern METHOD = Pattern.compile(
        "^( +)(?:(?:public|private|static|final) )*[\\w\\[\\]]+ \\w+\\(([^)]*)\\) \\{$");
    private static final int MOST_LINES = 60;

    private LanguageTests() {
    }

    static void run(String place) throws IOException {
        String text = new String(Files.readAllBytes(Paths.get(place)), StandardCharsets.ISO_8859_1);
        for (int at = 0; at < text.length(); at++) {
            if (text.charAt(at) > 126) {
                Checks.holds("only plain signs in the program", false);
            }
        }
        String program = withoutComments(text);
        for (String pattern : FORBIDDEN) {
            Matcher matcher = Pattern.compile(pattern, Pattern.MULTILINE).matcher(program);
            boolean found = matcher.find();
            Checks.holds("the program holds no " + pattern + (found ? ", but: " + matcher.group() : ""), !found);
        }
        Matcher imports = Pattern.compile("^import (.*);", Pattern.MULTILINE).matcher(program);
        while (imports.find()) {
            Checks.holds("import " + imports.group(1), imports.group(1).equals("java.util.Arrays"));
        }
        methodsAreShort(program);
    }

    private static String withoutComments(String text) {
        return text.replaceAll("(?s)/\\*.*?\\*/", "").replaceAll("//[^\n]*", "");
    }

    private static void methodsAreShort(String program) {
        String[] lines = program.split("\n", -1);
        for (int start = 0; start < lines.length; start++) {
            Matcher matcher = METHOD.matcher(lines[start]);
            if (matcher.matches() && !lines[start].contains(" class ")) {
                int end = start;
                while (end < lines.length && !lines[end].equals(matcher.group(1) + "}")) {
                    end++;
                }
                Checks.holds("short: " + lines[start].trim(), end - start < MOST_LINES);
                Checks.holds("seven parameters at most: " + lines[start].trim(),
                    matcher.group(2).split(",").length <= 7);
            }
        }
    }
}
