import java.io.IOException;
import java.nio.file.Files;
import java.nio.file.Path;
import java.util.regex.Matcher;
import java.util.regex.Pattern;

/** What of LANGUAGE.md can be seen in the text of the program; .ci/run starts it in the project's folder. */
public final class LanguageTest {
    private static final Path PROGRAM = Path.of("src/main/java/CycleSynthesis.java");
    private static final int LONGEST_METHOD = 60;

    private static final String[] FORBIDDEN = {
        "\\bpackage\\b", "\\bimport\\b", "->", "::", "\\bfinally\\b", "\\btry\\b", "\\bcatch\\b",
        "\\bsynchronized\\b", "\\bassert\\b", "\\binstanceof\\b", "\\bSystem\\b", "\\bThread\\b", "\\bRandom\\b",
        "\\bInteger\\b", "\\bLong\\b", "\\bArrays\\b", "\\bprotected\\b", "\\bstatic\\s*\\{", "\\.equals\\(",
        "\\bhashCode\\b", "\\btoString\\b", "\\bnew (?!IllegalArgumentException|IndexOutOfBoundsException"
            + "|int\\[|int\\[\\]|Operation\\b|Block\\b|Tape\\b|Translator\\b|Layer\\b|Machine\\b|Program\\b"
            + "|Reader\\b|Ways\\b)",
        "\\bMath\\.(?!min\\(|max\\()", "while \\(true\\)", "for \\(;;\\)", "[^\\x00-\\x7f]"};

    public static void main(String[] args) throws IOException {
        String text = Files.readString(PROGRAM);
        String code = text.replaceAll("(?s)/\\*.*?\\*/", "").replaceAll("//[^\n]*", "");
        for (String forbidden : FORBIDDEN) {
            Matcher found = Pattern.compile(forbidden).matcher(code);
            Checks.due("'" + forbidden + "' in the program", found.find() ? 1 : 0, 0);
        }
        Matcher made = Pattern.compile("\\bstatic (?!final |class |private )(?!\\w+(\\[\\])? \\w+\\()").matcher(code);
        Checks.due("a static field that is not final", made.find() ? 1 : 0, 0);
        methodsAreShort(code);
        Checks.finish();
    }

    /** A method ends with the first brace that stands as far in as its own first line. */
    private static void methodsAreShort(String code) {
        String[] lines = code.split("\n");
        for (int i = 0; i < lines.length; i++) {
            String line = lines[i];
            String margin = line.substring(0, line.length() - line.stripLeading().length());
            if (line.matches("\\s+[^=;]*\\) (throws [\\w, ]+ )?\\{") && !line.strip().matches("(if|for|while|switch|\\}).*")) {
                int end = i;
                while (!lines[end].equals(margin + "}")) {
                    end++;
                }
                Checks.due("the length of" + line, Math.max(end - i + 1, LONGEST_METHOD), LONGEST_METHOD);
            }
        }
    }
}
