import java.io.IOException;
import java.nio.file.Files;
import java.nio.file.Path;
import java.util.ArrayList;
import java.util.LinkedHashMap;
import java.util.List;
import java.util.Map;
import java.util.regex.Matcher;
import java.util.regex.Pattern;

/**
 * The sentences of DOC.md by their sections ("Calendar", "Promise 9"), and which of them have been
 * quoted by a test. Without the document every quotation is taken as it is.
 */
final class Document {
    private static final Pattern BLOCK = Pattern.compile("([A-Z][a-z]+( [a-z]+)?):");
    // They say nothing that a call could answer.
    private static final List<String> SILENT = List.of("A documentary credit desk:",
            "The constructor and the methods follow", "`");

    private final Map<String, List<String>> sentences = new LinkedHashMap<>();
    private final Map<String, List<String>> quoted = new LinkedHashMap<>();

    static Document read(Path path) {
        Document document = new Document();
        try {
            if (Files.isRegularFile(path)) {
                document.take(Files.readAllLines(path));
            }
        } catch (IOException failure) {
            throw new IllegalStateException("cannot read " + path, failure);
        }
        return document;
    }

    boolean isThere() {
        return !sentences.isEmpty();
    }

    private void take(List<String> lines) {
        String section = "";
        boolean inCode = false;
        for (String line : lines) {
            Matcher block = BLOCK.matcher(line);
            if (line.startsWith("```")) {
                inCode = !inCode;
            } else if (inCode || line.isBlank() || line.startsWith("# ")) {
                continue;
            } else if (line.startsWith("## ")) {
                section = line.substring(3).replaceFirst(":.*", "");
            } else if (block.matches()) {
                section = block.group(1);
            } else if (!section.equals("Not promised")) {
                takeLine(section, line);
            }
        }
    }

    private void takeLine(String section, String line) {
        for (String sentence : plain(line).split("(?<=[.;]) ")) {
            sentences.computeIfAbsent(section, key -> new ArrayList<>()).add(sentence);
        }
    }

    private static String plain(String text) {
        return text.strip().replaceAll("\\s+", " ");
    }

    /** Whether the section has these words, which may be several sentences of it. */
    boolean quote(String section, String words) {
        quoted.computeIfAbsent(section, key -> new ArrayList<>()).add(words);
        List<String> there = sentences.getOrDefault(section, List.of());
        return !isThere() || String.join(" ", there).contains(words);
    }

    List<String> notQuoted() {
        List<String> missing = new ArrayList<>();
        sentences.forEach((section, there) -> {
            for (String sentence : there) {
                if (!isSilent(sentence) && !isQuoted(section, sentence)) {
                    missing.add(section + ": " + sentence);
                }
            }
        });
        return missing;
    }

    private static boolean isSilent(String sentence) {
        return SILENT.stream().anyMatch(sentence::startsWith);
    }

    private boolean isQuoted(String section, String sentence) {
        return quoted.getOrDefault(section, List.of()).stream()
                .anyMatch(words -> words.contains(sentence));
    }
}
