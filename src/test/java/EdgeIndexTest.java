import java.io.IOException;
import java.nio.file.Files;
import java.nio.file.Path;
import java.util.List;
import java.util.regex.Matcher;
import java.util.regex.Pattern;
import java.util.stream.Collectors;
import java.util.stream.Stream;

/**
 * Which sentences of the document have tests of their edges: each that such a test quotes stands in the document, and
 * each answer below 0, each limit, and each word for an edge stands in a sentence that is quoted. Run from the
 * project's folder.
 */
public final class EdgeIndexTest {
    private static final Path DOCUMENT = Path.of("../shared/DOC.md");
    private static final Path TESTS = Path.of("src/test/java");
    private static final int PROMISES = 37;
    private static final Pattern QUOTE = Pattern.compile("(?:promise\\((\\d+), |terms\\()\"([^\"\n]+)\"\\)");
    private static final Pattern EDGE = Pattern.compile("\\b(BAD|NOT|FULL|NONE|NULL|CAST|INDEX|SIZE)\\b(?! ONE)"
        + "|\\d+ \\.\\. \\w+|at first|at most|\\bcut\\b|left over|\\bnever\\b|\\blost\\b|\\bfewest\\b|(?<!`)\\bsoonest\\b|\\bleast\\b"
        + "|lowest|less than|\\bonly\\b|\\bnothing\\b|\\bthe first\\b|\\bthe end\\b|\\bT and \\w+");
    private static final Due due = new Due();

    public static void main(String[] args) throws IOException {
        String document = plain(Files.readString(DOCUMENT));
        String terms = document.substring(0, document.indexOf("## Promise 1:"));
        boolean[] quotedTerms = new boolean[terms.length()];
        String[] promises = new String[PROMISES + 1];
        boolean[][] quoted = new boolean[PROMISES + 1][];
        for (int n = 1; n <= PROMISES; n++) {
            int from = document.indexOf("## Promise " + n + ":");
            int to = document.indexOf("## ", from + 1);
            promises[n] = document.substring(document.indexOf("`: ", from), to);
            quoted[n] = new boolean[promises[n].length()];
        }
        Matcher quote = QUOTE.matcher(sources());
        while (quote.find()) {
            String number = quote.group(1);
            int n = number == null ? 0 : Integer.parseInt(number);
            boolean isThere = mark(number == null ? terms : promises[n], number == null ? quotedTerms : quoted[n], quote.group(2));
            due.is("\"" + quote.group(2) + "\" stands in the document, promise " + n, isThere ? 1 : 0, 1);
        }
        allQuoted("the terms", terms.substring(terms.indexOf("## Terms")), terms.indexOf("## Terms"), quotedTerms);
        for (int n = 1; n <= PROMISES; n++) {
            allQuoted("promise " + n, promises[n], 0, quoted[n]);
        }
        due.end();
    }

    private static String plain(String text) {
        return text.replaceAll("\\s+", " ");
    }

    private static String sources() throws IOException {
        try (Stream<Path> files = Files.list(TESTS)) {
            List<Path> edges = files.filter(file -> file.getFileName().toString().matches("(EdgesOf.*|Refused)Test.java"))
                .sorted().collect(Collectors.toList());
            StringBuilder sources = new StringBuilder();
            for (Path file : edges) {
                sources.append(Files.readString(file)).append('\n');
            }
            return sources.toString();
        }
    }

    private static boolean mark(String text, boolean[] quoted, String quote) {
        boolean isThere = false;
        for (int at = text.indexOf(quote); at >= 0; at = text.indexOf(quote, at + 1)) {
            isThere = true;
            java.util.Arrays.fill(quoted, at, at + quote.length(), true);
        }
        return isThere;
    }

    private static void allQuoted(String where, String text, int offset, boolean[] quoted) {
        Matcher edge = EDGE.matcher(text);
        while (edge.find()) {
            int at = edge.start();
            String near = text.substring(Math.max(0, at - 40), Math.min(text.length(), at + 40));
            due.is(where + ": \"" + near + "\" has a test", quoted[offset + at] ? 1 : 0, 1);
        }
    }
}
