import java.io.IOException;
import java.nio.file.Files;
import java.nio.file.Path;

/** README's example answers what its comments say; .ci/run starts it in the project's folder. */
public final class ReadmeTest {
    public static void main(String[] args) throws IOException {
        String readme = Files.readString(Path.of("README.md"));
        CycleSynthesis x = new CycleSynthesis();
        String program = "b=1;while a{b=b*a;a=a-1;}";
        dueInReadme(readme, "String program = \"" + program + "\";");
        for (int i = 0; i < program.length(); i++) {
            x.feed(1, program.charAt(i));
        }
        answers(readme, "x.compile();", x.compile(), "3");
        x.units(1, 2, 3);
        dueInReadme(readme, "x.units(1, 2, 3);");
        answers(readme, "x.operation(2, 2);", x.operation(2, 2), "3");
        answers(readme, "x.block(1, 4);", x.block(1, 4), "NONE");
        x.set(0, 5);
        dueInReadme(readme, "x.set(0, 5);");
        answers(readme, "x.run(5000);", x.run(5000), "27");
        answers(readme, "x.get(1);", x.get(1), "120");
        hasProgramWithoutFault(readme);
        namesTests(readme);
        Checks.finish();
    }

    private static void dueInReadme(String readme, String text) {
        Checks.due("README has " + text, readme.contains(text) ? 1 : 0, 1);
    }

    private static void answers(String readme, String call, int got, String want) {
        Checks.same(call, got == CycleSynthesis.NONE ? "NONE" : "" + got, want);
        boolean told = false;
        for (String line : readme.split("\n")) {
            told |= line.matches("\\Q" + call + "\\E +// " + want + "\\b.*");
        }
        Checks.due("README tells " + want + " of " + call, told ? 1 : 0, 1);
    }

    private static void hasProgramWithoutFault(String readme) {
        int start = readme.indexOf("```text\n") + 8;
        CycleSynthesis x = Checks.made(readme.substring(start, readme.indexOf("```", start)));
        Checks.due("blocks of README's statements", x.told(0), 5);
    }

    private static void namesTests(String readme) throws IOException {
        try (var files = Files.list(Path.of("src/test/java"))) {
            for (Path file : files.sorted().toList()) {
                String name = file.getFileName().toString();
                if (name.endsWith(".java")) {
                    dueInReadme(readme, "`" + name.substring(0, name.length() - 5) + "`");
                }
            }
        }
    }
}
