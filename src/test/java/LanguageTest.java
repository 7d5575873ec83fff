import java.io.IOException;
import java.nio.file.Files;
import java.nio.file.Path;
import java.util.regex.Matcher;
import java.util.regex.Pattern;

/** What of LANGUAGE.md can be seen in the text of the program. Run from the project's folder. */
public final class LanguageTest {
    private static final Path SOURCE = Path.of("src", "main", "java", "LazyHeaps.java");
    private static final int LONGEST_METHOD = 60;

    private static final String[] FORBIDDEN = {
        "\\bthrow\\b", "\\bthrows\\b", "\\btry\\b", "\\bcatch\\b", "\\bsynchronized\\b",
        "\\bassert\\b", "->", "::", "\\bpackage\\b", "\\bprotected\\b", "\\bwhile\\b",
        "\\bequals\\b", "\\bhashCode\\b", "\\btoString\\b", "Exact\\b", "\\bstatic\\s*\\{",
        "\\bThread\\b", "\\bRandom\\b", "\\bnanoTime\\b", "\\bcurrentTimeMillis\\b", "\"",
        "\\[\\]\\[\\]\\[\\]", "\\bfloat\\b", "\\bdouble\\b", "\\bObject\\b", "\\bnew\\s+\\w+<",
    };

    private static String withoutComments(String text) {
        return text.replaceAll("(?s)/\\*.*?\\*/", "").replaceAll("//[^\n]*", "");
    }

    private static void lookAtLibrary(Checks checks, String code) {
        Matcher imports = Pattern.compile("import\\s+([\\w.*]+);").matcher(code);
        while (imports.find()) {
            checks.holds("import " + imports.group(1), imports.group(1).equals("java.util.Arrays"));
        }
        Matcher calls = Pattern.compile("\\b(System|Arrays|Math|Long|Integer)\\.(\\w+)").matcher(code);
        while (calls.find()) {
            checks.holds(calls.group() + " is in the library", calls.group().matches(
                    "System\\.arraycopy|Arrays\\.(copyOf|copyOfRange|fill)|Math\\.(max|min)|Long\\.compare"));
        }
    }

    /** Methods stand four or eight blanks deep, and end with a brace at that depth. */
    private static void lookAtMethods(Checks checks, String[] lines) {
        Pattern head = Pattern.compile("( {4}| {8})[a-zA-Z][\\w\\[\\] ]*\\(.*\\) \\{");
        for (int i = 0; i < lines.length; i++) {
            Matcher matcher = head.matcher(lines[i]);
            if (matcher.matches()) {
                int end = i;
                while (end < lines.length && !lines[end].equals(matcher.group(1) + "}")) {
                    end++;
                }
                checks.holds(lines[i].trim() + " is short", end - i < LONGEST_METHOD);
            }
        }
    }

    public static void main(String[] args) throws IOException {
        Checks checks = new Checks();
        String text = Files.readString(SOURCE);
        String code = withoutComments(text);
        for (String word : FORBIDDEN) {
            Matcher matcher = Pattern.compile(word).matcher(code);
            checks.holds("no " + word, !matcher.find());
        }
        checks.holds("plain characters", text.chars().allMatch(c -> c < 128));
        lookAtLibrary(checks, code);
        lookAtMethods(checks, text.split("\n"));
        checks.finish("LanguageTest");
    }
}
