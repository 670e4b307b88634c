import java.io.IOException;
import java.nio.charset.StandardCharsets;
import java.nio.file.Files;
import java.nio.file.Path;
import java.util.regex.Matcher;
import java.util.regex.Pattern;

/** The example of README.md: each call stands with the answer that it gives. */
final class ReadmeTests {
    private static final Pattern BLOCK = Pattern.compile("```java\n(.*?)```", Pattern.DOTALL);
    private static final Pattern CALL = Pattern.compile("x\\.(\\w+\\([^)]*\\)); *// (\\S+?)(?::.*)?");
    private static final Pattern TEXT = Pattern.compile("for \\(char letter : \"(.*)\"\\.toCharArray\\(\\)\\) \\{");

    private ReadmeTests() {
    }

    static void run(Check c) {
        c.test("the example of README.md", () -> {
            Matcher block = BLOCK.matcher(read());
            c.holds("there is an example", block.find());
            Script script = new Script(c, asScript(block.group(1)));
            c.holds("it makes more than a few calls: " + script.names(), script.names().size() > 12);
            script.play();
        });
        c.test("README.md names each call", () -> {
            for (String line : Document.face()) {
                String name = line.replaceFirst("public \\w+ (\\w+)\\(.*", "$1");
                c.holds(line + " is named", name.equals(line) || read().contains("`" + name + "`"));
            }
        });
    }

    /** Throws where a line is neither the object's making nor a call with its answer nor a text for THE TAPE. */
    private static String asScript(String code) {
        StringBuilder script = new StringBuilder();
        String text = null;
        for (String line : code.split("\n")) {
            Matcher call = CALL.matcher(line.trim());
            Matcher fed = TEXT.matcher(line.trim());
            if (line.startsWith("VeilsOfTheView x = new VeilsOfTheView();")) {
                script.append("new\n");
            } else if (fed.matches()) {
                text = fed.group(1);
            } else if (call.matches() && text != null && call.group(1).equals("view()")) {
                script.append("reads \"").append(text).append("\" = ").append(call.group(2)).append('\n');
                text = null;
            } else if (call.matches()) {
                script.append(call.group(1)).append(" = ").append(call.group(2)).append('\n');
            } else if (!line.isBlank() && !line.matches(" *x\\.feed\\(letter\\);|}|// .*")) {
                throw new IllegalStateException("what does this line tell? " + line);
            }
        }
        return script.toString().replace("VeilsOfTheView.NONE", "NONE");
    }

    private static String read() {
        try {
            return Files.readString(Path.of("README.md"), StandardCharsets.UTF_8);
        } catch (IOException gone) {
            throw new IllegalStateException("run the tests in the project's root", gone);
        }
    }
}
