import java.io.IOException;
import java.nio.charset.StandardCharsets;
import java.nio.file.Files;
import java.nio.file.Path;
import java.util.ArrayList;
import java.util.List;

/** Checks that tell which sentence of the document they hold the program to. */
class Boundaries extends Checks {
    /** The part of the document ahead of the promises. */
    static final int TERMS = 0;

    private static final Path DOCUMENT = Path.of("../shared/DOC.md");
    private static final List<List<String>> HELD = new ArrayList<>();
    private static int madeBefore = 0;

    /** The checks that follow hold the program to this sentence; the promise TERMS is the part ahead of the promises. */
    static void says(int promise, String sentence) {
        endSentence();
        while (HELD.size() <= promise) {
            HELD.add(new ArrayList<>());
        }
        HELD.get(promise).add(sentence);
        about = headingOf(promise) + " says \"" + sentence + "\": ";
        madeBefore = checksMade();
    }

    private static String headingOf(int promise) {
        return promise == TERMS ? "Terms" : "Promise " + promise;
    }

    private static void endSentence() {
        if (!about.isEmpty()) {
            due("checks of the sentence", checksMade() > madeBefore ? 1 : 0, 1);
        }
        about = "";
    }

    /** Each sentence of the document has checks of its own, and each sentence that is quoted stands there. */
    static void dueEachSentence() throws IOException {
        endSentence();
        List<List<String>> document = sentencesOfDocument();
        due("promises that are checked", HELD.size(), document.size());
        for (int promise = 0; promise < document.size() && promise < HELD.size(); promise++) {
            for (String sentence : document.get(promise)) {
                boolean held = HELD.get(promise).stream().anyMatch(sentence::contains);
                dueText(headingOf(promise) + ": " + sentence, held ? "checked" : "not checked", "checked");
            }
            for (String quoted : HELD.get(promise)) {
                boolean stands = document.get(promise).stream().anyMatch(sentence -> sentence.contains(quoted));
                dueText(headingOf(promise) + ": " + quoted, stands ? "in the document" : "not in the document",
                        "in the document");
            }
        }
    }

    private static List<List<String>> sentencesOfDocument() throws IOException {
        List<List<String>> all = new ArrayList<>();
        boolean inside = false;
        for (String line : Files.readAllLines(DOCUMENT, StandardCharsets.UTF_8)) {
            if (line.equals("## Terms") || line.startsWith("## Promise ")) {
                all.add(new ArrayList<>());
                inside = true;
            } else if (line.startsWith("## ")) {
                inside = false;
            } else if (inside && !line.isBlank() && !line.startsWith("### ") && !isNameOfAPart(line)) {
                String text = line.replaceFirst("^`[^`]*`: ", "");
                all.get(all.size() - 1).addAll(List.of(text.split("(?<=\\.\\)?) (?=[A-Z(])")));
            }
        }
        return all;
    }

    private static boolean isNameOfAPart(String line) {
        return line.startsWith("Ahead of the calls") && !line.contains("nothing is changed");
    }
}
