import java.io.IOException;
import java.nio.charset.StandardCharsets;
import java.nio.file.Files;
import java.nio.file.Path;
import java.util.Arrays;
import java.util.LinkedHashMap;
import java.util.Map;

/**
 * The document's sentences by their places. A test says which one it tries; that one must stand there, and must be
 * tried by a call at least; at the end no word from the first line to the last promise may be untried.
 */
final class Sentences {
    private static final Map<String, String> WORDS = new LinkedHashMap<>();
    private static final Map<String, boolean[]> TRIED = new LinkedHashMap<>();
    private static String at = "";
    private static int sentences = 0;
    private static int answers = 1;

    private Sentences() {
    }

    static void read() throws IOException {
        String doc = Files.readString(Path.of("../shared/DOC.md"), StandardCharsets.UTF_8).replaceAll("```\\w*", "");
        place("First", doc, "The last car down:", "An object is used");
        place("Use", doc, "An object is used", "## The public face");
        place("Face", doc, "## The public face", "## Terms");
        place("Terms 1", doc, "==== 1 ", "==== 2 ");
        place("Terms 2", doc, "==== 2 ", "==== 3 ");
        place("Terms 3", doc, "==== 3 ", "Ahead of the calls");
        place("Ahead", doc, "Ahead of the calls", "## Promise 1:");
        for (int n = 1; n <= 30; n++) place("Promise " + n, doc, "## Promise " + n + ":", n < 30 ? "## Promise " + (n + 1) : "## Not promised");
    }

    private static void place(String name, String doc, String from, String to) {
        int begin = doc.indexOf(from);
        int end = doc.indexOf(to, Math.max(0, begin));
        if (begin < 0 || end < 0) throw new IllegalStateException("the document has no place " + name);
        String words = doc.substring(begin, end).replaceAll("\\s+", " ").replaceAll("^==== \\d ", "");
        if (name.startsWith("Promise")) words = words.replaceAll("^[^`]*`[^`]*`: ", "");
        WORDS.put(name, words);
        TRIED.put(name, new boolean[words.length()]);
    }

    static String wordsOf(String place) {
        return WORDS.get(place);
    }

    /** From here on answers are due by these words of this place. */
    static void says(String place, String words) {
        nothingTried();
        at = place + " \"" + words + "\": ";
        answers = 0;
        sentences++;
        String all = WORDS.get(place);
        boolean[] tried = TRIED.get(place);
        int found = 0;
        for (int i = all.indexOf(words); i >= 0; i = all.indexOf(words, i + 1)) {
            Arrays.fill(tried, i, i + words.length(), true);
            found++;
        }
        Due.be(at + "stands there", found > 0 ? 1 : 0, 1);
    }

    private static void nothingTried() {
        if (answers == 0) Due.be(at + "is tried", 0, 1);
    }

    static void be(String call, long got, long want) {
        answers++;
        Due.be(at + call, got, want);
    }

    static void end() {
        nothingTried();
        for (String place : WORDS.keySet()) {
            Due.be(place + " has untried words: " + untried(place), untried(place).length(), 0);
        }
        System.out.println(sentences + " sentences tried");
    }

    private static String untried(String place) {
        StringBuilder untried = new StringBuilder();
        String words = WORDS.get(place);
        boolean[] tried = TRIED.get(place);
        for (int i = 0; i < words.length(); i++) {
            if (!tried[i]) untried.append(words.charAt(i));
        }
        return untried.toString().matches("[\\s,.;:]*") ? "" : untried.toString();
    }
}
