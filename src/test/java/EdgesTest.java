import java.nio.file.Files;
import java.nio.file.Path;
import java.util.ArrayList;
import java.util.List;
import java.util.regex.Matcher;
import java.util.regex.Pattern;

/** Runs the edges of all parts, and holds their sentences against the document: each stands there, and each has a test. */
public final class EdgesTest {
    private static final Path DOCUMENT = Path.of("../shared/DOC.md");

    /** What tells of no edge: names of parts, and how to read the rest. */
    private static final List<String> WITHOUT_EDGE = List.of(
            "## Terms", "Words in capitals are told where they come first.", "All numbers are whole; / cuts towards 0.",
            "======== 1", "======== 2", "======== 3 MEASURES:", "======== 4 A LAST END:", "======== 5", "```text");

    public static void main(String[] args) throws Exception {
        TermsEdges.run();
        ClayEdges.run();
        RulesEdges.run();
        ScoreEdges.run();
        MeasuresEdges.run();
        LastEndEdges.run();
        MatchEdges.run();
        TableEdges.run();
        everySentenceHasATest(onOneLine(Files.readString(DOCUMENT)));
        for (Edge.Named test : args.length > 0 ? Edge.TESTS : List.<Edge.Named>of()) {
            System.out.println("promise " + test.promise() + ": " + test.sentence());
        }
        System.out.println(Edge.TESTS.size() + " tests of sentences");
        Due.finish();
    }

    private static String onOneLine(String text) {
        return text.replaceAll("\\s+", " ");
    }

    /** Blots out each sentence that a test names: nothing may be left of the promises but signs between them. */
    private static void everySentenceHasATest(String document) {
        int terms = document.indexOf("## Terms");
        int first = document.indexOf("Ahead of the calls `rake`");
        int last = document.indexOf("## Not promised");
        StringBuilder all = new StringBuilder(document);
        for (Edge.Named test : Edge.TESTS) {
            blot(document, all, sectionOf(document, test.promise()), test);
        }
        StringBuilder left = new StringBuilder(all.substring(terms, first));
        for (int promise = 1; promise <= 26; promise++) {
            int[] section = sectionOf(document, promise);
            left.append(all, section[0], section[1]);
        }
        Due.due("the document ends where it is looked for", sectionOf(document, 26)[1], last);
        String rest = left.toString();
        for (String plain : WITHOUT_EDGE) {
            rest = rest.replace(plain, " ");
        }
        List<String> untested = new ArrayList<>();
        Matcher word = Pattern.compile("[A-Za-z0-9][^#]*").matcher(rest);
        while (word.find()) {
            untested.add(word.group().trim());
        }
        Due.due("sentences without a test: " + untested, untested.size(), 0);
    }

    /** What a promise says behind its call's form: from the colon behind it up to the next heading. */
    private static int[] sectionOf(String document, int promise) {
        int heading = document.indexOf("## Promise " + promise + ":");
        int from = document.indexOf("`: ", heading) + 3;
        int to = document.indexOf("## ", heading + 3);
        return new int[] {from, to};
    }

    private static void blot(String document, StringBuilder all, int[] section, Edge.Named test) {
        String sentence = test.sentence();
        int at = document.indexOf(sentence, section[0]);
        if (at < 0 || at + sentence.length() > section[1]) {
            at = document.indexOf(sentence);
        }
        Due.due("stands in the document: promise " + test.promise() + ", \"" + sentence + "\"", at < 0 ? 0 : 1, 1);
        for (int k = at; at >= 0 && k < at + sentence.length(); k++) {
            all.setCharAt(k, '#');
        }
    }
}
