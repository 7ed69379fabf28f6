import java.io.IOException;
import java.lang.reflect.Method;
import java.lang.reflect.Modifier;
import java.nio.charset.StandardCharsets;
import java.nio.file.Files;
import java.nio.file.Path;
import java.util.HashSet;
import java.util.List;
import java.util.Set;
import java.util.regex.Matcher;
import java.util.regex.Pattern;

/** Rules of LANGUAGE.md that can be seen in the text of the file. It runs in the project's folder. */
public final class SourceTest {
    private static final Path SOURCE = Path.of("src/main/java/QuantileDesk.java");
    private static final Set<String> IMPORTS =
            Set.of("import java.util.ArrayList;", "import java.util.List;", "import java.util.Arrays;");
    /** Each with the rule that bars it. */
    private static final String[][] BARRED = {
        {"1", "^package "},
        {"2", "->|::"},
        {"4", "Arrays\\.(?!copyOf\\(|copyOfRange\\(|fill\\()"},
        {"4", "System\\.(?!arraycopy\\()"},
        {"4", "Math\\.\\w+Exact"},
        {"5", "static\\s*\\{"},
        {"6", "\\b(try|catch|finally|synchronized|assert)\\b"},
        {"6", "new \\w+Exception\\([^)\"]"},
        {"6", "\\b(equals|hashCode|toString)\\("},
        {"9", "while \\(true\\)|for \\(;;\\)"},
        {"13", "Thread|nanoTime|currentTime|Random|java\\.io|java\\.nio|getenv|getProperty"},
    };

    private static void textKeepsToTheRules() throws IOException {
        String text = Files.readString(SOURCE, StandardCharsets.ISO_8859_1);
        for (int i = 0; i < text.length(); i++) {
            if (text.charAt(i) > 126) {
                Check.due("a sign at " + i, 0, text.charAt(i));
            }
        }
        String code = text.replaceAll("(?s)/\\*.*?\\*/", "").replaceAll("//[^\n]*", "");
        for (String line : code.split("\n")) {
            if (line.startsWith("import ")) {
                Check.due(line, 1, IMPORTS.contains(line) ? 1 : 0);
            }
        }
        for (String[] barred : BARRED) {
            Matcher m = Pattern.compile(barred[1], Pattern.MULTILINE).matcher(code);
            Check.dueText("rule " + barred[0], "keeps to it", m.find() ? "has " + m.group() : "keeps to it");
        }
    }

    private static void noPrivateMethodBearsAPublicName() {
        Set<String> open = new HashSet<>();
        for (Method m : QuantileDesk.class.getDeclaredMethods()) {
            if (Modifier.isPublic(m.getModifiers())) {
                open.add(m.getName());
            }
        }
        Class<?>[] inner = QuantileDesk.class.getDeclaredClasses();
        Check.due("at most twelve classes", 1, inner.length < 12 ? 1 : 0);
        for (Class<?> c : inner) {
            for (Method m : c.getDeclaredMethods()) {
                Check.due(c.getName() + "." + m.getName() + " bears a public name", 0, open.contains(m.getName()) ? 1 : 0);
            }
        }
        for (Method m : QuantileDesk.class.getDeclaredMethods()) {
            if (Modifier.isPrivate(m.getModifiers())) {
                Check.due(m.getName() + " bears a public name", 0, open.contains(m.getName()) ? 1 : 0);
            }
        }
    }

    private static void methodsAreShort() throws IOException {
        List<String> lines = Files.readAllLines(SOURCE, StandardCharsets.ISO_8859_1);
        int start = 0;
        for (int i = 0; i < lines.size(); i++) {
            if (lines.get(i).isBlank()) {
                Check.due("lines in one piece up to line " + i, 1, i - start <= 60 ? 1 : 0);
                start = i;
            }
        }
    }

    public static void main(String[] args) throws IOException {
        textKeepsToTheRules();
        noPrivateMethodBearsAPublicName();
        methodsAreShort();
        Check.end();
    }
}
