import java.io.IOException;
import java.nio.charset.StandardCharsets;
import java.nio.file.Files;
import java.nio.file.Path;
import java.util.ArrayList;
import java.util.LinkedHashMap;
import java.util.List;
import java.util.Map;
import java.util.regex.Matcher;
import java.util.regex.Pattern;

/** The words of ../shared/DOC.md by sections, and which of them some test has quoted. It is read from the project's root. */
final class Document {
    private static final Path FILE = Path.of("../shared/DOC.md");
    private static final Pattern PROMISE = Pattern.compile("## (Promise \\d+): (.+)");

    private final Map<String, String> texts = new LinkedHashMap<>();
    private final Map<String, boolean[]> quoted = new LinkedHashMap<>();
    private final List<String> calls = new ArrayList<>();

    Document() {
        String section = "";
        for (String line : read().split("\n")) {
            String started = sectionOf(line, section);
            if (!started.equals(section)) {
                section = started;
                texts.put(section, "");
            }
            if (!line.matches("#.*|```.*|====.*|THE VIEW")) {
                texts.merge(section, line.replaceFirst("^`[^`]*`: ", "").trim() + " ", String::concat);
            }
        }
        texts.replaceAll((name, text) -> text.replaceAll("\\s+", " ").trim());
        texts.forEach((name, text) -> quoted.put(name, new boolean[text.length()]));
    }

    private String sectionOf(String line, String section) {
        Matcher promise = PROMISE.matcher(line);
        if (promise.matches()) {
            calls.add(promise.group(2));
            return promise.group(1);
        }
        if (line.startsWith("## ")) {
            return line.substring(3);
        }
        if (line.equals("THE VIEW")) {
            return "THE VIEW";
        }
        if (line.startsWith("==== ")) {
            return line.substring("==== 2. ".length());
        }
        return line.startsWith("REFUSALS (") ? "REFUSALS" : section;
    }

    /** The call that a promise is about: 2 is row; 1, the new object, is none. */
    String callOf(int promise) {
        return promise == 1 ? "new" : calls.get(promise - 1);
    }

    int promises() {
        return calls.size();
    }

    /** The words stand once in the section, no more and no less; from now on they are quoted. */
    boolean quote(String section, String words) {
        String text = texts.getOrDefault(section, "");
        int place = text.indexOf(words);
        if (place < 0 || place != text.lastIndexOf(words)) {
            return false;
        }
        for (int i = place; i < place + words.length(); i++) {
            quoted.get(section)[i] = true;
        }
        return true;
    }

    /** The first words of the section that nobody has quoted; "" if all are. */
    String unquoted(String section) {
        String text = texts.get(section);
        for (int i = 0; i < text.length(); i++) {
            if (Character.isLetterOrDigit(text.charAt(i)) && !quoted.get(section)[i]) {
                return text.substring(i, Math.min(text.length(), i + 60));
            }
        }
        return "";
    }

    List<String> sections() {
        return new ArrayList<>(texts.keySet());
    }

    /** What the code under "The public face" tells of members and of the class, a line each. */
    static List<String> face() {
        List<String> lines = new ArrayList<>();
        String code = read().replaceFirst("(?s).*## The public face\\s+```java\n(.*?)```.*", "$1");
        for (String line : code.split("\n")) {
            if (line.trim().startsWith("public ")) {
                lines.add(line.trim());
            }
        }
        return lines;
    }

    private static String read() {
        try {
            return Files.readString(FILE, StandardCharsets.UTF_8);
        } catch (IOException gone) {
            throw new IllegalStateException("run the tests in the project's root, beside ../shared", gone);
        }
    }
}
