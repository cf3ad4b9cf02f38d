import java.io.IOException;
import java.nio.file.Files;
import java.nio.file.Path;
import java.util.ArrayList;
import java.util.List;
import java.util.regex.Matcher;
import java.util.regex.Pattern;

/** That each sentence EdgesTest names stands in DOC.md, and that none of DOC.md's sentences is without a test. */
public final class SentencesTest {
    private static final Path DOCUMENT = Path.of("../shared/DOC.md");
    private static final int PROMISES = 38;
    private static final Check CHECK = new Check("SentencesTest");

    public static void main(String[] args) throws IOException {
        String document = Files.readString(DOCUMENT).replaceAll("\\s+", " ");
        String terms = between(document, "## Terms", "Ahead of the calls `player`");
        List<String> promises = new ArrayList<>();
        for (int n = 1; n <= PROMISES; n++) {
            String next = n < PROMISES ? "## Promise " + (n + 1) + ":" : "## Not promised";
            promises.add(between(document, "## Promise " + n + ":", next));
        }
        String whatItIs = between(document, "An object is used", "## The public face");
        named(terms + " " + whatItIs, promises);
        terms(terms);
        for (int n = 1; n <= PROMISES; n++) {
            covered("promise " + n, promises.get(n - 1).replaceFirst("^## Promise .*?`: ", ""), sentences(n));
        }
        CHECK.end();
    }

    private static String between(String text, String from, String to) {
        int start = text.indexOf(from);
        int end = text.indexOf(to, Math.max(0, start));
        CHECK.due("\"" + from + "\" .. \"" + to + "\" is in the document", start >= 0 && end > start);
        return start >= 0 && end > start ? text.substring(start, end) : "";
    }

    private static void named(String terms, List<String> promises) {
        for (Edges.Edge edge : Edges.all()) {
            boolean isPromise = edge.promise >= 1 && edge.promise <= PROMISES;
            CHECK.due(edge + ": there is such a promise", isPromise);
            boolean isThere = isPromise && promises.get(edge.promise - 1).contains(edge.sentence) || terms.contains(edge.sentence);
            CHECK.due(edge + " stands in the document", isThere);
        }
    }

    private static List<String> sentences(int promise) {
        List<String> sentences = new ArrayList<>();
        for (Edges.Edge edge : Edges.all()) {
            if (edge.promise == promise || promise == 0) {
                sentences.add(edge.sentence);
            }
        }
        return sentences;
    }

    private static void terms(String terms) {
        covered("the terms", terms.replaceAll("## Terms|==== [123]|```(text)?", ""), sentences(0));
    }

    /** That nothing with a letter or a number in it is left of a text when what the sentences say is taken out. */
    private static void covered(String where, String text, List<String> sentences) {
        boolean[] is = new boolean[text.length()];
        for (String sentence : sentences) {
            for (int at = text.indexOf(sentence); at >= 0; at = text.indexOf(sentence, at + 1)) {
                for (int k = at; k < at + sentence.length(); k++) {
                    is[k] = true;
                }
            }
        }
        StringBuilder left = new StringBuilder();
        for (int k = 0; k < text.length(); k++) {
            left.append(is[k] ? '\n' : text.charAt(k));
        }
        Matcher piece = Pattern.compile("[^\\n]*\\w[^\\n]*").matcher(left);
        while (piece.find()) {
            CHECK.due(where + ": \"" + piece.group().trim() + "\" has a test", false);
        }
        CHECK.due(where + " is looked at", text.length() > 0);
    }
}
