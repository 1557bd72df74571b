import java.io.IOException;
import java.nio.file.Files;
import java.nio.file.Path;
import java.util.LinkedHashMap;
import java.util.Map;

/**
 * What the tests of the document's boundaries share: each test first quotes the words that it would
 * fail without, so that none is made up and none is forgotten.
 */
final class Edges {
    private final Checks checks = new Checks();
    /** The document's text, blanks drawn together. */
    private final String document;
    /** Of each promise what no test has quoted yet. */
    private final Map<Integer, String> left = new LinkedHashMap<>();
    private String quoted = "";
    private int askedAbout = 1;

    Edges() throws IOException {
        document = oneLine(Files.readString(Path.of("../shared/DOC.md")));
        for (int n = 1; n <= 36; n++) {
            String text = promise(n);
            // Behind the signature, which stands in backticks.
            left.put(n, text.substring(text.indexOf("`: ") + 3));
        }
    }

    private static String oneLine(String text) {
        return text.replaceAll("\\s+", " ");
    }

    private String promise(int n) {
        int from = document.indexOf("## Promise " + n + ":");
        return document.substring(from, document.indexOf("##", from + 2));
    }

    /** What follows tests these words of a promise. */
    void promise(int n, String words) {
        String rest = left.get(n);
        checks.due("Promise " + n + " says \"" + words + "\"", promise(n).contains(words), true);
        left.put(n, rest.replace(words, " "));
        quote("Promise " + n + ", \"" + words + "\"");
    }

    /** What follows tests these words of the Terms, or of what stands ahead of them. */
    void term(String words) {
        String terms = document.substring(0, document.indexOf("## Promise 1:"));
        checks.due("The Terms say \"" + words + "\"", terms.contains(words), true);
        quote("Terms, \"" + words + "\"");
    }

    private void quote(String words) {
        checks.due(quoted + " is tested", askedAbout > 0, true);
        quoted = words;
        askedAbout = 0;
    }

    void due(String call, long got, long want) {
        askedAbout++;
        checks.due(quoted + ": " + call, got, want);
    }

    void due(String call, boolean got, boolean want) {
        due(call, got ? 1 : 0, want ? 1 : 0);
    }

    /** One question asked from the first what on: the answers that are due. */
    void dueRow(String call, java.util.function.IntUnaryOperator asked, int... due) {
        for (int what = 0; what < due.length; what++) {
            due(call + " " + what, asked.applyAsInt(what), due[what]);
        }
    }

    /** The same answer to each of these. */
    void dueAll(String call, java.util.function.IntUnaryOperator asked, int due, int... numbers) {
        for (int number : numbers) {
            due(call + " of " + number, asked.applyAsInt(number), due);
        }
    }

    void finish(String name) {
        quote("");
        for (Map.Entry<Integer, String> rest : left.entrySet()) {
            String untested = rest.getValue().replaceAll("[ ;:.]+", " ").trim();
            checks.due("Promise " + rest.getKey() + " is quoted but for \"" + untested + "\"",
                untested.isEmpty(), true);
        }
        checks.finish(name);
    }
}
