import java.io.IOException;
import java.nio.file.Files;
import java.nio.file.Path;
import java.util.BitSet;
import java.util.LinkedHashMap;
import java.util.List;
import java.util.Map;
import java.util.TreeSet;

/**
 * Holds the words of the tests against the document: each test's words stand in its chapter, and of the terms and the
 * promises no word is left without a test, but for those that name nothing that could be tested.
 */
final class DocumentSentences {
    private static final Path DOCUMENT = Path.of("../shared/DOC.md");
    private static final List<String> LINES_WITHOUT_TEST = List.of(
        "Sluices of a terrace: canals that branch at gates of three kinds,", "Ahead of the calls ");
    private static final List<String> SENTENCES_WITHOUT_TEST = List.of(
        "All numbers are whole numbers but shares.", "Water is told in buckets, time in hours.");

    private DocumentSentences() {
    }

    static void check() {
        Map<String, String> chapters = chapters();
        Map<String, List<String>> tested = Sentences.tested();
        for (String title : new TreeSet<>(tested.keySet())) {
            Due.holds("the document has the chapter " + title, chapters.containsKey(title));
        }
        for (Map.Entry<String, String> chapter : chapters.entrySet()) {
            String title = chapter.getKey();
            checkChapter(title, chapter.getValue(), tested.getOrDefault(title, List.of()));
        }
    }

    private static void checkChapter(String title, String text, List<String> sentences) {
        BitSet hasTest = new BitSet();
        for (String sentence : sentences) {
            int at = text.indexOf(sentence);
            Due.holds("it stands in the chapter " + title + ": " + sentence, at >= 0);
            for (int from = at; from >= 0; from = text.indexOf(sentence, from + 1)) {
                hasTest.set(from, from + sentence.length());
            }
        }
        for (int at = 0; at < text.length(); at++) {
            if (Character.isLetterOrDigit(text.charAt(at)) && !hasTest.get(at)) {
                int end = Math.min(hasTest.nextSetBit(at) < 0 ? text.length() : hasTest.nextSetBit(at), text.length());
                Due.holds("no test in the chapter " + title + " for: " + text.substring(at, end), false);
                at = end;
            }
        }
    }

    /** The texts of the chapters that are to be tested, by their titles, in one line each. */
    private static Map<String, String> chapters() {
        Map<String, String> chapters = new LinkedHashMap<>();
        String title = "";
        for (String line : lines()) {
            if (line.startsWith("#")) {
                title = line.replaceFirst("#+ ", "");
            } else if (isToTest(line)) {
                chapters.merge(title, plain(line), (text, more) -> text + " " + more);
            }
        }
        chapters.keySet().removeIf(name -> name.equals("SluiceTurns") || name.equals("The public face")
                || name.equals("Not promised"));
        return chapters;
    }

    private static boolean isToTest(String line) {
        return !line.isBlank() && LINES_WITHOUT_TEST.stream().noneMatch(line::startsWith);
    }

    /** A line without its list mark, its code marks, and the head of a method ahead of what is said of it. */
    private static String plain(String line) {
        String text = line;
        for (String sentence : SENTENCES_WITHOUT_TEST) {
            text = text.replace(sentence, "");
        }
        return text.replaceFirst("^`[^`]*\\(.*\\)`: ", "").replaceFirst("^- ", "").replace("`", "").strip();
    }

    private static List<String> lines() {
        try {
            return Files.readAllLines(DOCUMENT);
        } catch (IOException e) {
            Due.holds("the document can be read: " + DOCUMENT, false);
            return List.of();
        }
    }
}
