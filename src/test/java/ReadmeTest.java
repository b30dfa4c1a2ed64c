import java.io.IOException;
import java.nio.file.Files;
import java.nio.file.Path;
import java.util.regex.Matcher;
import java.util.regex.Pattern;

/** The calls that README.md shows answer what it tells behind them. */
public final class ReadmeTest {
    private static final Pattern SHOWN = Pattern.compile("^house\\.(\\w+)\\(([^)]*)\\); +// (-?\\d+): ");
    private static final int FEWEST_CALLS = 20;
    private static final Check CHECK = new Check();

    public static void main(String[] args) throws IOException {
        CHECK.about("README.md");
        RobeHouse house = new RobeHouse();
        int calls = 0;
        for (String line : Files.readAllLines(Path.of("README.md"))) {
            Matcher shown = SHOWN.matcher(line);
            if (shown.find()) {
                CHECK.call(Long.parseLong(shown.group(3)), house, shown.group(1), numbersOf(shown.group(2)));
                calls++;
            } else {
                CHECK.yes("a call with an answer: " + line, !line.startsWith("house."));
            }
        }
        CHECK.yes("the example is there", calls >= FEWEST_CALLS);
        CHECK.end("ReadmeTest");
    }

    private static long[] numbersOf(String args) {
        String[] parts = args.split(", ");
        long[] numbers = new long[parts.length];
        for (int k = 0; k < parts.length; k++) {
            numbers[k] = Long.decode(parts[k].replace("L", ""));
        }
        return numbers;
    }
}
