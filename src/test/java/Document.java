import java.io.IOException;
import java.nio.charset.StandardCharsets;
import java.nio.file.Files;
import java.nio.file.Path;
import java.util.ArrayList;
import java.util.Arrays;
import java.util.LinkedHashMap;
import java.util.List;
import java.util.Map;

/** The clauses of ../shared/DOC.md, part by part, and how many tests have quoted each. */
final class Document {
    private static final Path PLACE = Path.of("../shared/DOC.md");
    private static final List<String> PARTS_WITHOUT = Arrays.asList("DistrictPlanner", "The public face", "Not promised");

    private final Map<String, Integer> quotes = new LinkedHashMap<>();
    private final List<String> paragraph = new ArrayList<>();
    private String part = "";

    /** Without the file there is nothing to compare with: the tests run all the same. */
    Document() throws IOException {
        if (!isThere()) {
            System.out.println("no " + PLACE + ": clauses are not looked up");
            return;
        }
        boolean isCode = false;
        for (String line : Files.readAllLines(PLACE, StandardCharsets.UTF_8)) {
            if (line.startsWith("```")) {
                isCode = !isCode;
            } else if (!isCode) {
                read(line);
            }
        }
        endParagraph();
    }

    boolean isThere() {
        return Files.exists(PLACE);
    }

    private static String key(String part, String clause) {
        return part + " | " + clause;
    }

    private void read(String line) {
        boolean isSignature = line.startsWith("`") && line.endsWith("`");
        if (line.startsWith("#")) {
            endParagraph();
            part = line.replaceAll("^#+ ", "").replaceAll(":.*", "");
        } else if (line.isBlank() || line.startsWith("----") || isSignature) {
            endParagraph();
        } else if (line.startsWith("  ")) {
            endParagraph();
            add(line.trim());
        } else if (line.startsWith("- ")) {
            endParagraph();
            addClauses(line.substring(2));
        } else {
            paragraph.add(line.trim());
        }
    }

    private void endParagraph() {
        for (String sentence : String.join(" ", paragraph).split("\\. |\\.$")) {
            addClauses(sentence);
        }
        paragraph.clear();
    }

    /** A semicolon in parentheses does not end a clause. */
    private void addClauses(String sentence) {
        for (String clause : sentence.split("; (?![^(]*\\))")) {
            add(clause.trim());
        }
    }

    /** One word alone is a heading in the running text. */
    private void add(String clause) {
        if (clause.contains(" ") && !PARTS_WITHOUT.contains(part)) {
            quotes.put(key(part, clause), 0);
        }
    }

    /** False if the document has no such clause. */
    boolean quote(String ofPart, String clause) {
        return !isThere() || quotes.computeIfPresent(key(ofPart, clause), (key, times) -> times + 1) != null;
    }

    List<String> unquoted() {
        List<String> left = new ArrayList<>();
        quotes.forEach((key, times) -> {
            if (times == 0) {
                left.add(key);
            }
        });
        return left;
    }
}
