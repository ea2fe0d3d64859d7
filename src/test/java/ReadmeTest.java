import java.io.IOException;
import java.nio.charset.StandardCharsets;
import java.nio.file.Files;
import java.nio.file.Path;
import java.util.regex.Matcher;
import java.util.regex.Pattern;

/** The calls on README.md's page, made on one object from the first to the last, answer what stands behind them. */
public final class ReadmeTest {
    private static final Sentences s = new Sentences("ReadmeTest");
    private static final Pattern CALL = Pattern.compile("(?m)^    hall\\.(\\w+\\([^)]*\\));(?: +// (-?\\d+)\\b.*)?$");

    public static void main(String[] args) throws IOException {
        s.of("What it is", "An object is used for at most 512 calls after it has been made");
        String page = Files.readString(Path.of("README.md"), StandardCharsets.UTF_8);
        Matcher calls = CALL.matcher(page);
        int made = 0;
        while (calls.find()) {
            s.is(calls.group().strip() + " has no answer, 1 or 0:", calls.group(2) == null ? 1 : 0, 0);
            s.calls(calls.group(1) + (calls.group(2) == null ? "" : " = " + calls.group(2)));
            made++;
        }
        s.is("calls on the page that are not read", page.split("(?m)^    hall\\.").length - 1 - made, 0);
        s.is("no calls on the page, 1 or 0:", made == 0 ? 1 : 0, 0);
        s.end();
    }
}
