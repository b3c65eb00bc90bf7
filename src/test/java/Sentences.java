import java.io.IOException;
import java.nio.file.Files;
import java.nio.file.Path;
import java.util.Map;
import java.util.TreeMap;

/**
 * Checks that stand under the words of the document which they hold the class to.
 *
 * At the end every word of the Description and of the promises must have been quoted by a test,
 * so that no sentence is forgotten, and each quoted sentence must have been asked about.
 */
final class Sentences {
    private static final Path DOCUMENT = Path.of("../shared/DOC.md");
    /** Number under which the Description stands, in front of promise 1. */
    static final int DESCRIPTION = 0;

    private final Check check = new Check();
    /** Under each promise what no test has quoted yet. */
    private final Map<Integer, String> left = new TreeMap<>();
    private String words = "";
    private int promise = DESCRIPTION;
    private int askedUnderTheseWords = 1;

    Sentences() throws IOException {
        // Without the document at hand the tests still run, only their quotations are not compared.
        if (Files.isReadable(DOCUMENT)) {
            readDocument(Files.readString(DOCUMENT));
        }
    }

    private void readDocument(String text) {
        String[] parts = text.substring(text.indexOf("## Description"), text.indexOf("## Not promised")).split("## Promise ");
        for (int part = 0; part < parts.length; part++) {
            left.put(part, flat(withoutHeads(parts[part])));
        }
        left.put(DESCRIPTION, text.lines().filter(line -> line.startsWith("An object is used")).findFirst().orElse("")
                + " " + left.get(DESCRIPTION));
    }

    /** Titles, signatures, the examples and the constants: other tests have those. */
    private static String withoutHeads(String part) {
        int examples = part.indexOf("Examples: ");
        return (examples < 0 ? part : part.substring(0, examples))
                .replaceAll("(?m)^\\d+: .*$", "")
                .replaceAll("(?m)^##.*$", "")
                .replaceAll("(?m)^`.*`$", "")
                .replaceAll("(?m)^---- .*$", "");
    }

    private static String flat(String text) {
        return text.replaceAll("\\s+", " ");
    }

    /** Begins the tests of a sentence, or of that part of one which is quoted. */
    void say(int promise, String words) {
        closeWords();
        this.promise = promise;
        this.words = words;
        askedUnderTheseWords = 0;
        if (left.isEmpty()) {
            return;
        }
        String open = left.getOrDefault(promise, "");
        int at = open.indexOf(words);
        check.holds(promise + " the document says: " + words, at >= 0);
        if (at >= 0) {
            left.put(promise, open.substring(0, at) + "|" + open.substring(at + words.length()));
        }
    }

    void due(String what, long got, long want) {
        askedUnderTheseWords++;
        check.due(promise + " \"" + words + "\" " + what, got, want);
    }

    void same(String what, int[] got, int[] want) {
        due(what + ": how many", got.length, want.length);
        for (int i = 0; i < Math.min(got.length, want.length); i++) {
            due(what + ": number " + i, got[i], want[i]);
        }
    }

    private void closeWords() {
        check.holds(promise + " a test stands under: " + words, askedUnderTheseWords > 0);
    }

    void finish() {
        closeWords();
        left.forEach((number, open) ->
                check.holds(number + " every word is quoted, but not: " + open, !open.matches(".*[A-Za-z0-9].*")));
        check.holds("the Description and 28 promises", left.isEmpty() || left.size() == 29);
        check.finish();
    }
}
