import java.io.IOException;
import java.nio.charset.StandardCharsets;
import java.nio.file.Files;
import java.nio.file.Path;
import java.util.ArrayList;
import java.util.List;
import java.util.Map;
import java.util.TreeMap;

/**
 * The document's own sentences, so that each answer that is looked at belongs to the words it is due by:
 * what is quoted must stand in the document, and no sentence of a promise may be left without a test.
 */
final class Sentences {
    private static final int PROMISES = 33;
    private static final String[] REFUSALS = {"NONE: ", "HIDDEN: ", "False: ", "-2: ", "NoSuchElementException: "};
    /** Refusals told without a test of their own would not be seen by whole sentences. */
    private static final String BETWEEN_REFUSALS = ", ";

    private final Map<Integer, List<String>> quoted = new TreeMap<>();
    private final Map<Integer, String> told = new TreeMap<>();
    private int looked;
    private String open = "";

    /** Without the document nothing is compared with it; the answers are looked at all the same. */
    Sentences(Path document) throws IOException {
        if (!Files.exists(document)) {
            System.out.println("no document at " + document + ": quotes are not compared with it");
            return;
        }
        String text = Files.readString(document, StandardCharsets.UTF_8).replace("```text", " ").replace("```", " ");
        text = text.replaceAll("==== \\d\\.", " ");
        String[] parts = text.split("## Terms|## Promise \\d+: |## Not promised");
        Due.is("terms and 33 promises in the document", parts.length, PROMISES + 3);
        for (int promise = 0; promise <= PROMISES && promise + 1 < parts.length; promise++) {
            told.put(promise, parts[promise + 1].replaceAll("\\s+", " ").trim());
        }
    }

    /** All answers from here on are due by these words; promise 0 is what stands ahead of promise 1. */
    void says(int promise, String words) {
        close();
        open = "promise " + promise + ", '" + words + "'";
        Due.by(open);
        quoted.computeIfAbsent(promise, p -> new ArrayList<>()).add(words);
        if (!told.isEmpty()) {
            Due.is("the document has these words", told.getOrDefault(promise, "").contains(words), true);
        }
        looked = Due.looked();
    }

    private void close() {
        if (!open.isEmpty()) {
            Due.is("it has a test", Due.looked() > looked, true);
        }
        open = "";
        Due.by("");
    }

    void end() {
        close();
        for (int promise : told.keySet()) {
            for (String sentence : told.get(promise).split("(?<!\\.)\\. ")) {
                lookForSentence(promise, sentence.trim());
            }
        }
    }

    private void lookForSentence(int promise, String sentence) {
        for (String refusal : REFUSALS) {
            if (promise > 0 && sentence.startsWith(refusal)) {
                String cases = sentence.substring(refusal.length()).replaceAll("\\.$", "");
                for (String one : cases.split(BETWEEN_REFUSALS)) {
                    Due.is("promise " + promise + ", " + refusal + "'" + one + "' is quoted",
                            isQuoted(promise, refusal + one) || isQuoted(promise, one), true);
                }
                return;
            }
        }
        if (!sentence.isEmpty()) {
            boolean some = false;
            for (String words : quoted.getOrDefault(promise, List.of())) {
                some |= sentence.contains(words.replaceAll("\\.$", ""));
            }
            Due.is("promise " + promise + ", a part of '" + sentence + "' is quoted", some, true);
        }
    }

    private boolean isQuoted(int promise, String words) {
        for (String one : quoted.getOrDefault(promise, List.of())) {
            if (one.equals(words) || one.equals(words + ".")) {
                return true;
            }
        }
        return false;
    }
}
