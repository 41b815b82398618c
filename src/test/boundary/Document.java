import java.io.IOException;
import java.nio.file.Files;
import java.nio.file.Path;
import java.util.ArrayList;
import java.util.List;

/** The document's text, promise by promise, and what it says ahead of the promises. */
final class Document {
    static final int PROMISES = 53;

    private final String general;
    private final String[] promises = new String[PROMISES + 1];

    Document(Path file) throws IOException {
        StringBuilder ahead = new StringBuilder();
        for (String section : Files.readString(file).split("\n## ")) {
            int number = numberOf(section);
            if (number > 0) {
                promises[number] = section;
            } else {
                ahead.append(section).append('\n');
            }
        }
        general = ahead.toString();
    }

    private static int numberOf(String section) {
        if (!section.startsWith("Promise ")) {
            return 0;
        }
        int number = Integer.parseInt(section.substring("Promise ".length(), section.indexOf(':')));
        return number <= PROMISES ? number : 0;
    }

    /** Whether the sentence stands in the promise, or in the terms that hold for all promises. */
    boolean says(int promise, String sentence) {
        return promises[promise] != null && promises[promise].contains(sentence) || general.contains(sentence);
    }

    /** The lines of a promise that tell a range or an exception. */
    List<String> boundaryLines(int promise) {
        List<String> lines = new ArrayList<>();
        for (String line : promises[promise].split("\n")) {
            if (line.startsWith("Throws ") || line.matches("- `.*[0-9].*")) {
                lines.add(line);
            }
        }
        return lines;
    }
}
