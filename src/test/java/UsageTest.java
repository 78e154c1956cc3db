import java.io.IOException;
import java.nio.file.Files;
import java.nio.file.Path;
import java.util.List;
import java.util.regex.Matcher;
import java.util.regex.Pattern;

/** README.md's example: each call there has the answer that stands behind it. */
public final class UsageTest {
    private static final Pattern CALL =
            Pattern.compile("desk\\.(\\w+)\\(([0-9, ]*)\\); +// (-?\\d+).*");
    private static final int CALLS = 11;

    public static void main(String[] args) throws IOException {
        // .ci/run starts every test in the folder in which README.md is.
        List<String> lines = Files.readAllLines(Path.of("README.md"));
        ArchiveDesk desk = new ArchiveDesk();
        int calls = 0;
        for (String line : lines) {
            Matcher call = CALL.matcher(line);
            if (call.matches()) {
                calls++;
                int due = Integer.parseInt(call.group(3));
                Check.same(line, answer(desk, call.group(1), numbers(call.group(2))), due);
            }
        }
        Check.same("calls of the example", calls, CALLS);
        Check.end("UsageTest");
    }

    private static int[] numbers(String list) {
        if (list.isBlank()) {
            return new int[0];
        }
        String[] parts = list.split(", ");
        int[] numbers = new int[parts.length];
        for (int i = 0; i < parts.length; i++) {
            numbers[i] = Integer.parseInt(parts[i]);
        }
        return numbers;
    }

    private static int answer(ArchiveDesk desk, String name, int[] n) {
        switch (name) {
            case "fill":
                return desk.fill(n[0], n[1]);
            case "write":
                return desk.write(n[0]);
            case "read":
                return desk.read(n[0], n[1]);
            case "back":
                return desk.back();
            case "made":
                return desk.made();
            case "out":
                return desk.out(n[0]);
            case "told":
                return desk.told(n[0]);
            case "length":
                return desk.length(n[0], n[1]);
            default:
                throw new IllegalArgumentException(name);
        }
    }
}
