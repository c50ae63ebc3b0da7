import java.io.IOException;
import java.nio.charset.StandardCharsets;
import java.nio.file.DirectoryStream;
import java.nio.file.Files;
import java.nio.file.Path;
import java.util.LinkedHashMap;
import java.util.Map;
import java.util.regex.Matcher;
import java.util.regex.Pattern;

/** That all words of the promises and of Terms stand in a sentence that some test of the boundary cases is of. */
public final class EachSentenceHasATest {
    private static final Path TESTS = Path.of("src", "test", "java");
    private static final Pattern OF = Pattern.compile("@Of\\((promise|terms) = (\\d+), sentence = \"([^\"]*)\"\\)");
    private static final int PROMISES = 44;
    private static final int SECTIONS = 5;
    /** Stands for a sign of the document that a test is of. */
    private static final char TAKEN = '\u0000';

    public static void main(String[] args) throws IOException {
        Map<String, StringBuilder> left = new LinkedHashMap<>();
        Document.parts().forEach((part, text) -> left.put(part, new StringBuilder(text)));
        if (left.isEmpty()) {
            System.out.println("no document to find the sentences in");
            return;
        }
        int wrong = partsThatAreMissing(left) + takeAll(left, Document.parts());
        for (Map.Entry<String, StringBuilder> part : left.entrySet()) {
            wrong += tellWordsLeft(part.getKey(), part.getValue().toString());
        }
        System.out.println(wrong == 0 ? "each sentence has a test" : wrong + " places without a test");
        if (wrong != 0) {
            System.exit(1);
        }
    }

    private static int partsThatAreMissing(Map<String, StringBuilder> left) {
        int wrong = 0;
        for (int promise = 1; promise <= PROMISES; promise++) {
            wrong += left.containsKey(Document.promise(promise)) ? 0 : 1;
        }
        for (int section = 0; section <= SECTIONS; section++) {
            wrong += left.containsKey(Document.terms(section)) ? 0 : 1;
        }
        return wrong;
    }

    private static int takeAll(Map<String, StringBuilder> left, Map<String, String> parts) throws IOException {
        int wrong = 0;
        try (DirectoryStream<Path> files = Files.newDirectoryStream(TESTS, "Boundaries*.java")) {
            for (Path file : files) {
                Matcher of = OF.matcher(Files.readString(file, StandardCharsets.UTF_8));
                while (of.find()) {
                    int number = Integer.parseInt(of.group(2));
                    String part = of.group(1).equals("promise") ? Document.promise(number) : Document.terms(number);
                    int from = parts.getOrDefault(part, "").indexOf(of.group(3));
                    if (from < 0) {
                        wrong++;
                        System.out.println(part + " does not say \"" + of.group(3) + "\"");
                        continue;
                    }
                    for (int i = from; i < from + of.group(3).length(); i++) {
                        left.get(part).setCharAt(i, TAKEN);
                    }
                }
            }
        }
        return wrong;
    }

    private static int tellWordsLeft(String part, String text) {
        int wrong = 0;
        for (String piece : text.split(TAKEN + "+")) {
            if (piece.matches("(?s).*\\w.*")) {
                wrong++;
                System.out.println(part + ": no test is of \"" + piece.strip() + "\"");
            }
        }
        return wrong;
    }
}
