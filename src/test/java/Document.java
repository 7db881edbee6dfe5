import java.io.IOException;
import java.nio.file.Files;
import java.nio.file.Path;
import java.util.ArrayList;
import java.util.List;

/** The sentences of ../shared/DOC.md, each as its heading (up to a colon), " | " and its words. */
final class Document {
    private final List<String> sentences = new ArrayList<>();
    private final StringBuilder paragraph = new StringBuilder();
    private String heading = "";
    private boolean inCode = false;

    private Document() {
    }

    static List<String> sentences() throws IOException {
        Document document = new Document();
        for (String line : Files.readAllLines(Path.of("../shared/DOC.md"))) {
            document.read(line.strip().replaceAll(" +", " "));
        }
        document.endParagraph();
        return document.sentences;
    }

    private void read(String line) {
        if (line.startsWith("```")) {
            endParagraph();
            inCode = !inCode;
        } else if (inCode) {
            sentences.add(heading + " | " + line);
        } else if (line.startsWith("#")) {
            endParagraph();
            heading = line.replaceAll("^#+ ", "").replaceAll(":.*", "");
        } else if (line.isEmpty() || line.startsWith("- ")) {
            endParagraph();
            paragraph.append(line.isEmpty() ? "" : line.substring(2));
        } else {
            paragraph.append(paragraph.isEmpty() ? "" : " ").append(line);
        }
    }

    /** What stands between two semicolons is a sentence of its own here: the promises list their errors so. */
    private void endParagraph() {
        for (String sentence : paragraph.toString().split("(?<=\\.) |; ")) {
            if (!sentence.isEmpty()) {
                sentences.add(heading + " | " + sentence);
            }
        }
        paragraph.setLength(0);
    }
}
