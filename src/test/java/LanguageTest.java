import java.nio.charset.StandardCharsets;
import java.nio.file.Files;
import java.nio.file.Path;
import java.util.regex.Matcher;
import java.util.regex.Pattern;

/** What of ../shared/LANGUAGE.md can be seen in the text of src/main/java/HireScopes.java. */
public final class LanguageTest {
    private static final String[] FORBIDDEN = {
        "\\b(throw|throws|try|catch|synchronized|assert|import|package|protected|native|volatile|transient)\\b",
        "->", "::", "\\bnew\\s+\\w+\\s*\\([^)]*\\)\\s*\\{", "\\bstatic\\s*\\{", "\\bObject\\b", "\\bjava\\.",
        "\\bSystem\\.(?!arraycopy)", "Exact\\b", "\\b(equals|hashCode|toString|getClass)\\b", "\\bvar\\b",
        "\\bstatic (?!final|int|long|boolean|void|Script)", "\"",
        "(?<!public )\\b(int|long|boolean|void|\\w+) (part|state|clean|cleaning|plan|plans|act|line|wipe|fault|run|ran|failure"
            + "|leaks|leak|trace|giveBack|cents|log)\\([^)]*\\) \\{"};

    public static void main(String[] args) throws Exception {
        byte[] bytes = Files.readAllBytes(Path.of("src/main/java/HireScopes.java"));
        for (byte each : bytes) {
            if (each < 0) {
                Due.due("signs 1 to 127", 1, 0);
                break;
            }
        }
        String text = new String(bytes, StandardCharsets.ISO_8859_1)
                .replaceAll("(?s)/\\*.*?\\*/", "").replaceAll("//[^\n]*", "");
        for (String pattern : FORBIDDEN) {
            Matcher found = Pattern.compile(pattern).matcher(text);
            if (found.find()) {
                Due.due("'" + found.group() + "' is not of the language", 1, 0);
            }
        }
        methodsAreShort(text);
        Due.end();
    }

    /** No method of over sixty lines, and none of over seven parameters. */
    private static void methodsAreShort(String text) {
        Matcher begin = Pattern.compile("\n( +)[\\w\\[\\] ]+\\(([^)]*)\\) \\{").matcher(text);
        while (begin.find()) {
            int end = text.indexOf("\n" + begin.group(1) + "}", begin.end());
            long lines = text.substring(begin.start() + 1, Math.max(end, begin.end())).chars().filter(c -> c == '\n').count();
            Due.due("short: " + begin.group().trim(), 1, lines <= 60 ? 1 : 0);
            Due.due("parameters: " + begin.group().trim(), 1, begin.group(2).split(",").length <= 7 ? 1 : 0);
        }
    }
}
