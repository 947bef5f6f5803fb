import java.io.IOException;
import java.nio.file.Files;
import java.nio.file.Path;
import java.util.regex.Matcher;
import java.util.regex.Pattern;

/** What of LANGUAGE.md can be seen in the text of LeadPress.java. Its path is the argument. */
public final class LanguageTest {
    private static final String[] FORBIDDEN = {
        "\\bthrow\\b", "\\bthrows\\b", "\\btry\\b", "\\bcatch\\b", "\\bsynchronized\\b", "\\bassert\\b",
        "\\bpackage\\b", "\\bimport\\b", "->", "::", "\\bstatic\\s*\\{", "\\bSystem\\.(?!arraycopy)", "Exact\\b",
        "\\bThread\\b", "\\bRandom\\b", "\\bnative\\b", "\\bvar\\b", "\\bObject\\b", "\\bhashCode\\b",
        "\\bprotected\\b", "while\\s*\\(\\s*true", "for\\s*\\(\\s*;", "(?<![*/])/(?![*/])", "%"};

    public static void main(String[] args) throws IOException {
        String path = args.length > 0 ? args[0] : "src/main/java/LeadPress.java";
        String text = Files.readString(Path.of(path));
        for (char sign : text.toCharArray()) {
            if (sign > 126) {
                Due.due("a sign above 126", sign, 126);
            }
        }
        String code = text.replaceAll("(?s)/\\*.*?\\*/", "").replaceAll("//[^\n]*", "");
        for (String form : FORBIDDEN) {
            Matcher matcher = Pattern.compile(form).matcher(code);
            Due.due(form + " stands in it", matcher.find() ? 1 : 0, 0);
        }
        lengths(text);
        Due.end();
    }

    /** Methods stay under sixty lines. */
    private static void lengths(String text) {
        String[] lines = text.split("\n");
        int methods = 0;
        for (int i = 0; i < lines.length; i++) {
            Matcher head = Pattern.compile("^( {4}| {8})\\S.*\\) \\{$").matcher(lines[i]);
            if (head.find() && lines[i].matches(" *(public|private|static|int|long|void|boolean|[A-Z]\\w*)\\b.*")) {
                int end = i;
                while (end < lines.length && !lines[end].equals(head.group(1) + "}")) {
                    end++;
                }
                methods++;
                Due.due(lines[i] + " is short", end - i <= 60 ? 1 : 0, 1);
            }
        }
        Due.due("methods were found", methods > 60 ? 1 : 0, 1);
    }
}
