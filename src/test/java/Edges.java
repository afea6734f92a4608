import java.io.IOException;
import java.nio.file.Files;
import java.nio.file.Path;
import java.util.ArrayList;
import java.util.LinkedHashMap;
import java.util.List;
import java.util.Map;
import java.util.function.Supplier;

/**
 * Runs the tests of edges, one for each sentence of the document that names one, and holds their list against the
 * document: no sentence is quoted wrongly, and none that must have a test is left out.
 */
final class Edges {
    static final int TERMS = 0;
    static final int PROMISES = 40;

    private static final Map<Integer, List<String>> TOLD = new LinkedHashMap<>();

    private Edges() {
    }

    interface Call {
        long on(LaunchRange x, int number);
    }

    static void test(int promise, String sentence, Runnable test) {
        Check.promise(promise);
        List<String> told = TOLD.computeIfAbsent(promise, p -> new ArrayList<>());
        Check.is("the only test for: " + sentence, told.contains(sentence), false);
        told.add(sentence);
        test.run();
    }

    /** Each number from the least to the greatest is taken, at its ends at least, and none beyond them. */
    static void bounds(String what, int least, int greatest, Class<? extends RuntimeException> due,
            Supplier<LaunchRange> make, Call call) {
        for (int n : new int[] {least, least + 1, greatest - 1, greatest}) {
            LaunchRange x = make.get();
            Check.takes(what + " of " + n, () -> call.on(x, n));
        }
        int[] wrong = {least - 1, greatest + 1, least - 256, greatest + 256, least - 65536, greatest + 65536,
            Integer.MIN_VALUE, Integer.MIN_VALUE + 1, Integer.MAX_VALUE - 1, Integer.MAX_VALUE};
        for (int n : wrong) {
            LaunchRange x = make.get();
            Check.refuses(x, due, what + " of " + n, () -> call.on(x, n));
        }
    }

    /** Promises name their edges in the lines of exceptions, and in those of arguments that tell a number. */
    static void holdAgainst(Path document) throws IOException {
        String text = Files.readString(document);
        List<String> sections = sectionsOf(text);
        Check.promise(0);
        Check.same("sections of the document", sections.size(), PROMISES + 1);
        for (int i = 0; i < sections.size(); i++) {
            Check.promise(i);
            List<String> told = TOLD.getOrDefault(i, List.of());
            String section = sections.get(i).replaceAll("\\s+", " ");
            for (String sentence : told) {
                Check.is("stands in the document: " + sentence, section.contains(sentence), true);
            }
            for (String due : i == TERMS ? sentencesOf(sections.get(i)) : edgesOf(sections.get(i))) {
                Check.is("has a test: " + due, isTold(told, due), true);
            }
        }
    }

    private static boolean isTold(List<String> told, String due) {
        for (String sentence : told) {
            if (due.contains(sentence)) {
                return true;
            }
        }
        return false;
    }

    private static List<String> sectionsOf(String text) {
        List<String> sections = new ArrayList<>();
        int terms = text.indexOf("\n## Terms");
        int end = text.indexOf("\n## Not promised");
        for (String section : text.substring(terms, end).split("\n## Promise \\d+:")) {
            sections.add(section);
        }
        return sections;
    }

    private static List<String> edgesOf(String section) {
        List<String> edges = new ArrayList<>();
        for (String line : section.split("\n")) {
            boolean tellsNumber = line.startsWith("- `") && line.matches(".*\\d.*");
            if (tellsNumber || line.startsWith("Throws `")) {
                edges.add(line);
            }
        }
        return edges;
    }

    private static List<String> sentencesOf(String section) {
        List<String> sentences = new ArrayList<>();
        for (String line : section.split("\n")) {
            for (String sentence : line.split("(?<=[a-z0-9;])\\. ")) {
                boolean isHeading = line.startsWith("Ahead of the calls") || line.startsWith("##");
                boolean isName = sentence.length() < 30;
                if (!isHeading && !isName) {
                    sentences.add(sentence);
                }
            }
        }
        return sentences;
    }
}
