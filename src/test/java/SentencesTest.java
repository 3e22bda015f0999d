import java.io.IOException;
import java.nio.file.Files;
import java.nio.file.Path;
import java.util.ArrayList;
import java.util.List;
import java.util.regex.Matcher;
import java.util.regex.Pattern;
import java.util.stream.Stream;

/** That no sentence of the document's terms and promises is without a test: each is quoted by one. */
public final class SentencesTest {
    private static final Pattern QUOTE = Pattern.compile("Check\\.sentence\\(\"([^\"]*)\"\\);");
    private static final Pattern PROMISE = Pattern.compile("## Promise (\\d+): .*?(?= ## )");
    /** What tells nothing that a test could hold: headings, frames, the forms of calls and of parts. */
    private static final String[] FRAMES = {
        "## Terms", "==== [123]", "```(text)?", "Nkv", "Pabm", "Ahead of the calls .*?---- [^.]*\\.",
        "## Promise \\d+: [^`]*", "`(int|long) \\w+\\([^)]*\\)`:"};

    public static void main(String[] args) throws IOException {
        String document = Files.readString(Path.of("../shared/DOC.md")).replaceAll("\\s+", " ");
        char[] left = document.toCharArray();
        leaveOutQuotes(document, left);
        everyPromiseIsQuoted(document, left);
        leaveOutFrames(document, left);
        nothingIsLeft(document, left);
        Check.end("SentencesTest");
    }

    private static List<String> quotes() throws IOException {
        List<String> quotes = new ArrayList<>();
        try (Stream<Path> files = Files.list(Path.of("src/test/java"))) {
            for (Path file : files.sorted().toList()) {
                Matcher m = QUOTE.matcher(Files.readString(file));
                while (m.find()) {
                    quotes.add(m.group(1));
                }
            }
        }
        return quotes;
    }

    private static void leaveOut(char[] left, int from, int to) {
        for (int i = from; i < to; i++) {
            left[i] = ' ';
        }
    }

    /** Only the first place of a quote: words that stand twice are quoted with what tells them apart. */
    private static void leaveOutQuotes(String document, char[] left) throws IOException {
        for (String quote : quotes()) {
            int at = document.indexOf(quote);
            Check.holds("the document says: " + quote, at >= 0);
            leaveOut(left, Math.max(0, at), at < 0 ? 0 : at + quote.length());
        }
    }

    private static void everyPromiseIsQuoted(String document, char[] left) {
        int found = 0;
        Matcher promise = PROMISE.matcher(document);
        while (promise.find()) {
            found++;
            Check.due("promises in their order", Integer.parseInt(promise.group(1)), found);
            boolean isWhole = new String(left, promise.start(), promise.group().length()).equals(promise.group());
            Check.holds("some test quotes promise " + found, !isWhole);
        }
        Check.due("promises", found, 29);
    }

    private static void leaveOutFrames(String document, char[] left) {
        for (String frame : FRAMES) {
            Matcher m = Pattern.compile(frame).matcher(document);
            while (m.find()) {
                leaveOut(left, m.start(), m.end());
            }
        }
    }

    private static void nothingIsLeft(String document, char[] left) {
        int from = document.indexOf("## Terms");
        int to = document.indexOf("## Not promised");
        for (String rest : new String(left, from, to - from).split(" {2,}")) {
            Check.holds("some test quotes: " + rest, !rest.matches(".*\\w.*"));
        }
    }
}
