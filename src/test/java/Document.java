import java.io.IOException;
import java.nio.file.Files;
import java.nio.file.Path;
import java.util.ArrayList;
import java.util.List;
import java.util.Map;
import java.util.TreeMap;

/** The sentences of ../shared/DOC.md that bind the class. */
final class Document {
    private static final Path PATH = Path.of("../shared/DOC.md");

    private Document() {}

    /** Tells the sentences of each promise, and under 0 those of 'What it is' and 'Terms'. */
    static Map<Integer, List<String>> sentences() throws IOException {
        Map<Integer, List<String>> all = new TreeMap<>();
        for (String part : Files.readString(PATH).split("(?m)^## ")) {
            String head = part.lines().findFirst().orElse("");
            int promise = numberOf(head);
            if (promise >= 0) {
                String body = part.substring(head.length()).trim();
                all.computeIfAbsent(promise, number -> new ArrayList<>()).addAll(split(body));
            }
        }
        return all;
    }

    private static int numberOf(String head) {
        if (head.startsWith("Promise ")) {
            return Integer.parseInt(head.substring("Promise ".length(), head.indexOf(':')));
        }
        return head.equals("What it is") || head.equals("Terms") ? 0 : -1;
    }

    private static List<String> split(String body) {
        List<String> sentences = new ArrayList<>();
        for (String paragraph : body.split("\n\n|\n(?=- )")) {
            // The face of a method stands ahead of what it does; FaceTest reads that elsewhere.
            String text = paragraph.replaceFirst("^`[^`]*\\)[^`]*`: ", "").replaceAll("\\s+", " ");
            for (String sentence : text.split("(?<=[.;]) ")) {
                sentences.add(sentence.replaceFirst("[.;]$", ""));
            }
        }
        return sentences;
    }

    /** Tells the lines of the class that the document shows. */
    static List<String> face() throws IOException {
        List<String> face = new ArrayList<>();
        boolean isInside = false;
        for (String line : Files.readAllLines(PATH)) {
            String text = line.trim();
            if (text.startsWith("public final class Spanwarden")) {
                isInside = true;
            } else if (text.equals("}")) {
                isInside = false;
            } else if (isInside && text.startsWith("public ")) {
                face.add(text);
            }
        }
        return face;
    }
}
