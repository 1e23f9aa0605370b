import java.io.IOException;
import java.nio.file.Files;
import java.nio.file.Path;
import java.util.ArrayList;
import java.util.List;

/**
 * Sentences of the document that name a boundary case, each with a run of calls of its own: at the
 * boundary, and one step to each side of it where there is one. Each is quoted by its words.
 * With the argument "rest" it tells which words of the document no run quotes.
 */
public final class EdgeTest {
    private static final Path DOCUMENT = Path.of("../shared/DOC.md");
    private static final int CALLS = 512;
    private static final List<String> QUOTES = new ArrayList<>();
    private static int wrong;
    private static int runs;

    private EdgeTest() {
    }

    /** A run of calls for a sentence; both the program and the Model are held to it. */
    static void edge(String sentence, String lines) {
        QUOTES.add(plain(sentence));
        wrong += Script.play("\"" + sentence + "\"", lines, CALLS);
        runs++;
    }

    public static void main(String[] args) throws IOException {
        EdgeLand.all();
        EdgeNotes.all();
        EdgePapers.all();
        EdgeDown.all();
        EdgeDays.all();
        EdgeWeeks.all();
        EdgeSteps.all();
        EdgeTexts.all();
        EdgeSays.all();
        EdgeTries.all();
        EdgeRows.all();
        System.out.println(runs + " runs of edges, " + wrong + " answers wrong");
        if (Files.exists(DOCUMENT)) {
            quotes(plain(Files.readString(DOCUMENT)), args.length > 0 && args[0].equals("rest"));
        }
        if (wrong != 0) {
            System.exit(1);
        }
    }

    private static String plain(String text) {
        return text.replaceAll("\\s+", " ").strip();
    }

    private static void quotes(String document, boolean tellsRest) {
        boolean[] quoted = new boolean[document.length()];
        for (String quote : QUOTES) {
            int at = document.indexOf(quote);
            if (at < 0) {
                System.out.println("the document doesn't say: " + quote);
                wrong++;
            }
            for (; at >= 0; at = document.indexOf(quote, at + 1)) {
                java.util.Arrays.fill(quoted, at, at + quote.length(), true);
            }
        }
        if (tellsRest) {
            tellRest(document, quoted);
        }
    }

    private static void tellRest(String document, boolean[] quoted) {
        StringBuilder rest = new StringBuilder();
        for (int i = 0; i < quoted.length; i++) {
            if (!quoted[i]) {
                rest.append(document.charAt(i));
            } else if (i > 0 && !quoted[i - 1]) {
                rest.append('\n');
            }
        }
        for (String line : rest.toString().split("\n")) {
            if (line.matches(".*\\w.*")) {
                System.out.println("  " + line.strip());
            }
        }
    }
}
