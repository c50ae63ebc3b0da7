import java.io.IOException;
import java.io.UncheckedIOException;
import java.nio.charset.StandardCharsets;
import java.nio.file.Files;
import java.nio.file.Path;
import java.util.LinkedHashMap;
import java.util.List;
import java.util.Map;

/** The document in parts: its promises, and the sections of Terms. */
final class Document {
    private static final Path FILE = Path.of("..", "shared", "DOC.md");

    private Document() {
    }

    static String promise(int number) {
        return "promise " + number;
    }

    /** 0: what stands ahead of section 1. */
    static String terms(int section) {
        return "Terms " + section;
    }

    /** What each part says, by its name; none if there is no document. */
    static Map<String, String> parts() {
        Map<String, String> parts = new LinkedHashMap<>();
        String part = "";
        for (String line : lines()) {
            if (line.startsWith("## Terms")) {
                part = terms(0);
            } else if (line.startsWith("======== ")) {
                part = terms(line.charAt("======== ".length()) - '0');
            } else if (line.startsWith("## Promise ")) {
                part = promise(Integer.parseInt(line.substring("## Promise ".length(), line.indexOf(':'))));
            } else if (line.startsWith("## ")) {
                part = "";
            }
            if (!part.isEmpty()) {
                parts.merge(part, said(line) + "\n", String::concat);
            }
        }
        return parts;
    }

    /** A line without what is no sentence: titles, marks, the call that a promise is of, what the interface says. */
    private static String said(String line) {
        if (line.startsWith("## ") || line.startsWith("```") || line.startsWith("Ahead of the calls ")) {
            return "";
        }
        return line.replaceFirst("^======== \\d |^`[^`]+`: ", "");
    }

    private static List<String> lines() {
        if (!Files.isReadable(FILE)) {
            return List.of();
        }
        try {
            return Files.readAllLines(FILE, StandardCharsets.UTF_8);
        } catch (IOException unread) {
            throw new UncheckedIOException(unread);
        }
    }
}
