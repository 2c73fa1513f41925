import java.io.IOException;
import java.nio.file.Files;
import java.nio.file.Path;
import java.util.regex.Matcher;
import java.util.regex.Pattern;

/** The example of README.md: each call that it shows answers the number behind it. */
public final class ReadmeTest {
    private static final Pattern TEXT = Pattern.compile("String text = \"(\\S+)\";");
    private static final Pattern CALL = Pattern.compile("larder\\.(\\w+)\\(([-0-9, ]*)\\); +// (-?\\d+)\\b");

    public static void main(String[] args) throws IOException {
        Checks checks = new Checks();
        LarderAges larder = new LarderAges();
        int calls = 0;
        for (String line : Files.readAllLines(Path.of("README.md"))) {
            Matcher text = TEXT.matcher(line);
            if (text.find()) Checks.letters(larder, text.group(1));
            Matcher call = CALL.matcher(line);
            if (call.find()) {
                String told = (call.group(1) + " " + call.group(2).replace(",", "")).trim();
                checks.script(larder, told + " = " + call.group(3));
                calls++;
            }
        }
        checks.due("calls that the example shows", calls, 15);
        checks.end();
    }
}
