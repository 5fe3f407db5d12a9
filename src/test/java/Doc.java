import java.io.IOException;
import java.nio.file.Files;
import java.nio.file.Path;
import java.util.Arrays;
import java.util.LinkedHashMap;
import java.util.Map;

/** The document: each test names the sentence it holds the program to, and no sentence may stay without one. */
final class Doc {
    private static final Map<String, String> TEXTS = read(Path.of("../shared/DOC.md"));
    private static final Map<String, boolean[]> NAMED = new LinkedHashMap<>();

    private Doc() {
    }

    /** What follows is the test of this sentence of a part ("Terms", "Promise 7"; "": ahead of the first one). */
    static void says(String part, String sentence) {
        Check.about(part + ", \"" + sentence + "\"");
        String text = TEXTS.getOrDefault(part, "");
        boolean[] named = NAMED.computeIfAbsent(part, p -> new boolean[text.length()]);
        int at = text.indexOf(sentence);
        while (at >= 0 && named[at]) {
            at = text.indexOf(sentence, at + 1);
        }
        Check.yes("the document says so, and no other test has named it", at >= 0);
        if (at >= 0) {
            Arrays.fill(named, at, at + sentence.length(), true);
        }
    }

    /** Fails for each piece of the document, from its first line on, that no test has named. */
    static void everySentenceIsNamed() {
        Check.about("the document");
        for (String part : TEXTS.keySet()) {
            String rest = rest(part);
            Check.yes(part + " has a test for: " + rest, rest.isEmpty());
        }
        Check.due("parts of the document", 32, TEXTS.size());
    }

    private static String rest(String part) {
        String text = TEXTS.get(part);
        boolean[] named = NAMED.getOrDefault(part, new boolean[text.length()]);
        StringBuilder rest = new StringBuilder();
        for (int i = 0; i < text.length(); i++) {
            rest.append(named[i] ? ' ' : text.charAt(i));
        }
        return rest.toString().replaceAll("\\s+", " ").trim();
    }

    private static Map<String, String> read(Path path) {
        Map<String, StringBuilder> parts = new LinkedHashMap<>();
        String part = "";
        for (String line : lines(path)) {
            if (line.startsWith("## ")) {
                part = line.substring(3).replaceAll("^(Promise \\d+): .*", "$1");
            } else if (!line.startsWith("```")) {
                parts.computeIfAbsent(part, p -> new StringBuilder()).append(' ').append(line);
            }
        }
        Map<String, String> texts = new LinkedHashMap<>();
        parts.forEach((name, text) -> texts.put(name, plain(text.toString())));
        return texts;
    }

    /** Without the heads of the four parts, with single blanks. */
    private static String plain(String text) {
        return text.replaceAll("======== \\d ", " ").replaceAll("\\s+", " ").trim();
    }

    private static Iterable<String> lines(Path path) {
        try {
            return Files.readAllLines(path);
        } catch (IOException e) {
            throw new IllegalStateException("no document at " + path, e);
        }
    }
}
