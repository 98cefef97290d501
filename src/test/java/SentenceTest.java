import java.io.IOException;
import java.nio.file.Files;
import java.nio.file.Path;
import java.util.ArrayList;
import java.util.Arrays;
import java.util.List;
import java.util.regex.Matcher;
import java.util.regex.Pattern;
import java.util.stream.Stream;

/**
 * Whether the tests of edges leave out a sentence: what they name stands in the document, under that promise or among
 * the Terms; each sentence of each promise is named whole, each sentence of the Terms at least in part, and with that
 * part its words that tell an edge.
 */
public final class SentenceTest {
    private static final String TEXT = "\"((?:[^\"\\\\]|\\\\.)*)\"";
    private static final Pattern NAMED = Pattern.compile(
            "Edge\\.of\\(\"P(\\d+)\",\\s*((?:" + TEXT + "[\\s+]*)+)\\);");

    private record Named(int promise, String words, String file) {
    }

    private static String plain(String text) {
        return text.replaceAll("```\\w*", " ").replaceAll("\\s+", " ").trim();
    }

    private static List<Named> named() throws IOException {
        List<Named> all = new ArrayList<>();
        try (Stream<Path> files = Files.list(Path.of("src/test/java"))) {
            for (Path file : files.sorted().toList()) {
                String name = file.getFileName().toString();
                if (!name.matches("Edge\\w+Test\\.java")) {
                    continue;
                }
                Matcher m = NAMED.matcher(Files.readString(file));
                while (m.find()) {
                    String words = m.group(2).replaceAll("\"\\s*\\+\\s*\"", "");
                    all.add(new Named(Integer.parseInt(m.group(1)), words.substring(1, words.lastIndexOf('"')), name));
                }
            }
        }
        return all;
    }

    /** The text behind a heading, up to the next heading. */
    private static String under(String doc, String heading) {
        int from = doc.indexOf("\n## " + heading);
        int start = doc.indexOf('\n', from + 1);
        int end = doc.indexOf("\n## ", start);
        return plain(doc.substring(start, end < 0 ? doc.length() : end));
    }

    /** A . ends a sentence unless it is the sign . or one of two dots. */
    private static List<String> sentences(String text) {
        List<String> all = new ArrayList<>();
        for (String s : text.split("(?<=[^. ]\\.\\)?)\\s+")) {
            all.add(s.replaceAll("^==== \\d\\. ?", ""));
        }
        all.removeIf(String::isEmpty);
        return all;
    }

    private static String promise(String doc, int number) {
        String text = under(doc, "Promise " + number + ":");
        return text.substring(text.indexOf("`: ") + 3);
    }

    /** Words by which a sentence tells an edge: wherever they stand among the Terms, a named one goes over them. */
    private static void edges(String terms, List<Named> named) {
        boolean[] over = new boolean[terms.length()];
        for (Named n : named) {
            for (int at = terms.indexOf(n.words); at >= 0; at = terms.indexOf(n.words, at + 1)) {
                Arrays.fill(over, at, at + n.words.length(), true);
            }
        }
        Matcher edge = Pattern.compile("\\w [.][.] -?\\w|at most|at least|at first|together|going round|goes round"
                + "|without|never|if it ends|no such|seventh|fifth|at once|of several|cut|lowest|above 0|none")
                .matcher(terms);
        while (edge.find()) {
            int near = Math.max(0, edge.start() - 30);
            String place = terms.substring(near, Math.min(terms.length(), edge.end() + 30));
            boolean is = over[edge.start()] && over[edge.end() - 1];
            Due.is("'" + edge.group() + "' in '" + place + "' is named by a test of edges", is, true);
        }
    }

    public static void main(String[] args) throws IOException {
        String doc = Files.readString(Path.of("../shared/DOC.md"));
        String terms = under(doc, "What it is") + " " + under(doc, "Terms");
        List<Named> named = named();
        Due.is("the tests of edges name sentences", named.size() > 150, true);
        for (Named n : named) {
            boolean there = terms.contains(n.words) || promise(doc, n.promise).contains(n.words);
            Due.is(n.file + ": P" + n.promise + " '" + n.words + "' stands in the document", there, true);
        }
        for (int p = 1; p <= 45; p++) {
            int number = p;
            for (String sentence : sentences(promise(doc, p))) {
                boolean is = named.stream().anyMatch(n -> n.promise == number && n.words.equals(sentence));
                Due.is("P" + p + " '" + sentence + "' is named by a test of edges", is, true);
            }
        }
        for (String sentence : sentences(under(doc, "Terms"))) {
            boolean is = named.stream().anyMatch(n -> sentence.contains(n.words));
            Due.is("'" + sentence + "' of the Terms is named by a test of edges", is, true);
        }
        edges(terms, named);
        Due.close("SentenceTest");
    }
}
