import java.io.IOException;
import java.nio.file.Files;
import java.nio.file.Path;
import java.util.ArrayList;
import java.util.List;

/** The example of README.md answers what stands behind it, line by line. */
public final class ReadmeTest {
    public static void main(String[] args) throws IOException {
        Check check = new Check();
        List<String> told = example();
        List<String> done = answers();
        check.due("calls in the example of README.md", told.size(), done.size());
        for (int i = 0; i < told.size() && i < done.size(); i++) {
            String line = told.get(i);
            check.due("README.md tells \"" + line + "\", done was " + done.get(i) + ";", line.equals(done.get(i)), true);
        }
        check.end();
    }

    /** Each line of the example as "call -> answer". */
    private static List<String> example() throws IOException {
        List<String> lines = new ArrayList<>();
        for (String line : Files.readAllLines(Path.of("README.md"))) {
            int comment = line.indexOf("; ");
            if (line.startsWith("mill.") && comment >= 0) {
                String answer = line.substring(line.indexOf("//") + 2).split(":")[0].trim();
                lines.add(line.substring(0, comment) + " -> " + answer);
            }
        }
        return lines;
    }

    private static List<String> answers() {
        ConditionMill mill = new ConditionMill();
        return List.of(
                "mill.feed(0x332a322b31L, 5) -> " + mill.feed(0x332a322b31L, 5),
                "mill.reckon() -> " + mill.reckon(),
                "mill.value() -> " + mill.value(),
                "mill.isPlain() -> " + mill.isPlain(),
                "mill.tokens() -> " + mill.tokens(),
                "mill.token(1, 0) -> " + mill.token(1, 0),
                "mill.token(1, 1) -> " + mill.token(1, 1),
                "mill.token(1, 2) -> " + mill.token(1, 2),
                "mill.cut(1) -> " + mill.cut(1),
                "mill.feed(0x302f, 2) -> " + mill.feed(0x302f, 2),
                "mill.reckon() -> " + mill.reckon(),
                "mill.value() -> " + mill.value());
    }
}
