import java.io.IOException;
import java.nio.charset.StandardCharsets;
import java.nio.file.Files;
import java.nio.file.Path;
import java.util.Set;
import java.util.regex.Matcher;
import java.util.regex.Pattern;

/** What of LANGUAGE.md can be read off the source's text. It is run in the project's root. */
final class LanguageTests {
    private static final Path SOURCE = Path.of("src/main/java/VeilsOfTheView.java");
    private static final Set<String> LIBRARY = Set.of(
            "Integer.bitCount", "Integer.compare", "Math.max", "Math.min", "Math.abs", "Math.floorMod",
            "Math.floorDiv", "System.arraycopy", "Arrays.fill", "Arrays.copyOf", "Arrays.copyOfRange");

    private LanguageTests() {
    }

    static void run(Check c) {
        c.test("the source keeps to the language", () -> {
            String source = read();
            String code = withoutRemarks(source);
            String bare = code.replaceAll("\"[^\"\n]*\"", "\"\"").replaceAll("'[^'\n]'", "' '");
            String[] words = {"throw", "throws", "try", "catch", "finally", "synchronized", "assert", "package",
                "float", "double", "volatile", "transient", "native", "Object", "Thread", "Random", "Character",
                "var", "yield", "nanoTime", "currentTimeMillis", "equals", "hashCode", "toString"};
            for (String word : words) {
                c.holds("the word " + word + " is not there", !Pattern.compile("\\b" + word + "\\b").matcher(bare).find());
            }
            c.holds("no lambda", !bare.contains("->"));
            c.holds("no method reference", !bare.contains("::"));
            c.holds("no annotation", !bare.contains("@"));
            c.holds("no text joined by +", !Pattern.compile("\"\"\\s*\\+|\\+\\s*\"\"").matcher(bare).find());
            c.holds("signs are 1 to 127", source.chars().allMatch(sign -> sign < 128));
            Matcher imports = Pattern.compile("import ([^;]*);").matcher(bare);
            while (imports.find()) {
                c.holds("import " + imports.group(1), imports.group(1).matches("java\\.util\\.(Arrays|ArrayList|List)"));
            }
            Matcher calls = Pattern.compile("\\b(Integer|Long|Math|System|Arrays)\\.(\\w+)").matcher(
                    bare.replaceAll("import [^;]*;", ""));
            while (calls.find()) {
                c.holds("library: " + calls.group(), LIBRARY.contains(calls.group()));
            }
        });
        c.test("objects are made in constructors alone, so that no call takes room", () -> {
            String member = "";
            for (String line : withoutRemarks(read()).split("\n")) {
                if (line.matches("( {4}| {8})(?! |for|if|while|switch|\\}).*\\) \\{")) {
                    member = line.trim();
                }
                if (line.matches(".*\\bnew \\w.*")) {
                    c.holds(line.trim() + " in " + member, member.matches("(public )?[A-Z]\\w*\\(\\) \\{"));
                }
            }
        });
        c.test("methods stay short", () -> {
            String[] lines = read().split("\n");
            int start = -1;
            String indent = "";
            for (int i = 0; i < lines.length; i++) {
                if (start < 0 && lines[i].matches("( {4}| {8})[a-z].*\\) \\{")) {
                    start = i;
                    indent = lines[i].substring(0, lines[i].length() - lines[i].stripLeading().length());
                } else if (start >= 0 && lines[i].equals(indent + "}")) {
                    c.holds(lines[start].trim() + " has " + (i - start) + " lines", i - start <= 60);
                    start = -1;
                }
            }
        });
    }

    private static String withoutRemarks(String source) {
        return source.replaceAll("(?s)/\\*.*?\\*/", "").replaceAll("//[^\n]*", "");
    }

    private static String read() {
        try {
            return Files.readString(SOURCE, StandardCharsets.ISO_8859_1);
        } catch (IOException gone) {
            throw new IllegalStateException("run the tests in the project's root", gone);
        }
    }
}
