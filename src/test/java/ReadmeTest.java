import java.io.IOException;
import java.nio.charset.StandardCharsets;
import java.nio.file.Files;
import java.nio.file.Path;
import java.util.List;
import java.util.function.IntSupplier;

/** The example of README.md answers what is written there. It runs in the project's folder. */
public final class ReadmeTest {
    private static List<String> lines;

    private static void shows(String call, IntSupplier answer) {
        String written = "no such line";
        for (String line : lines) {
            if (line.startsWith(call + ";")) {
                written = line.substring(line.indexOf("//") + 2).trim();
            }
        }
        Check.dueText("README: " + call, "answers " + Check.answer(answer), written);
    }

    public static void main(String[] args) throws IOException {
        lines = Files.readAllLines(Path.of("README.md"), StandardCharsets.UTF_8);
        QuantileDesk desk = new QuantileDesk();
        int s = desk.make(2, 50, 7);
        desk.run(s, 0, 3, 1000);
        shows("desk.add(s, -5)", () -> desk.add(s, -5));
        shows("desk.told(s, 3)", () -> desk.told(s, 3));
        shows("desk.told(s, 4)", () -> desk.told(s, 4));
        shows("desk.rank(s, 1500)", () -> desk.rank(s, 1500));
        shows("desk.value(s, 500)", () -> desk.value(s, 500));
        shows("desk.bound(s, 500, false)", () -> desk.bound(s, 500, false));
        shows("desk.bound(s, 500, true)", () -> desk.bound(s, 500, true));
        shows("desk.clear(s)", () -> desk.clear(s));
        Check.end();
    }
}
