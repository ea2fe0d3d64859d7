import java.io.IOException;
import java.io.UncheckedIOException;
import java.nio.charset.StandardCharsets;
import java.nio.file.Files;
import java.nio.file.Path;
import java.util.ArrayList;
import java.util.Comparator;
import java.util.List;
import java.util.regex.Matcher;
import java.util.regex.Pattern;
import java.util.stream.Stream;

/** No sentence of the document is without a test: what the tests quote is taken out of it, and nothing may be left over. */
public final class EverySentenceTest {
    private static final Due due = new Due("EverySentenceTest");
    private static final Path DOCUMENT = Path.of("../shared/DOC.md");
    private static final Path TESTS = Path.of("src/test/java");
    private static final String LITERAL = "\"((?:[^\"\\\\]|\\\\.)*)\"";
    private static final Pattern JOINED = Pattern.compile(LITERAL + "(?:\\s*\\+\\s*" + LITERAL + ")*");
    /** A text in a test is no quotation if it has no word that a blank or a full stop follows. */
    private static final String QUOTATION = ".*\\w[ .].*";

    /** The face and the heads of the calls: FirstToLastTest reads them from the document itself. */
    private static final String FACE = "```java.*?```|`(?:\\w+ )?\\w+\\([^`]*\\)`:";
    /** What may be left between quotations: joining words and marks. */
    private static final String JOINTS = "\\band\\b|`what`:|The constants:|\\b\\d\\.|[-:;.,]";
    private static final String[] WITHOUT_TEST = {"What it is", "Not promised"};

    public static void main(String[] args) throws IOException {
        List<String> quotations = quotations();
        due.is("quotations, too few:", Math.max(0, 200 - quotations.size()), 0);
        for (String section : Files.readString(DOCUMENT, StandardCharsets.UTF_8).split("(?m)^#+ ")) {
            int end = section.indexOf('\n');
            if (end >= 0 && !isWithoutTest(section.substring(0, end))) {
                look(section.substring(0, end), section.substring(end), quotations);
            }
        }
        due.end();
    }

    private static boolean isWithoutTest(String heading) {
        for (String one : WITHOUT_TEST) {
            if (one.equals(heading)) {
                return true;
            }
        }
        return false;
    }

    private static void look(String heading, String text, List<String> quotations) {
        due.part(heading);
        String rest = text.replaceAll("\\s+", " ").replaceAll(FACE, " ");
        for (String quotation : quotations) {
            rest = rest.replace(quotation, " ");
        }
        rest = rest.replaceAll(JOINTS, " ").replaceAll("\\s+", " ").strip();
        due.is("without a test: '" + rest + "', characters", rest.length(), 0);
    }

    /** The texts in the tests that name sentences, the longest first. */
    private static List<String> quotations() throws IOException {
        List<String> all = new ArrayList<>();
        try (Stream<Path> files = Files.list(TESTS)) {
            files.filter(f -> f.toString().matches(".*(EdgesTest|FirstToLastTest)\\.java")).sorted()
                .forEach(f -> addFrom(f, all));
        }
        all.sort(Comparator.comparingInt(String::length).reversed());
        return all;
    }

    private static void addFrom(Path file, List<String> all) {
        try {
            Matcher joined = JOINED.matcher(Files.readString(file, StandardCharsets.UTF_8));
            while (joined.find()) {
                StringBuilder whole = new StringBuilder();
                Matcher one = Pattern.compile(LITERAL).matcher(joined.group());
                while (one.find()) {
                    whole.append(one.group(1).replace("\\\"", "\""));
                }
                if (whole.toString().matches(QUOTATION)) {
                    all.add(whole.toString());
                }
            }
        } catch (IOException e) {
            throw new UncheckedIOException(e);
        }
    }
}
