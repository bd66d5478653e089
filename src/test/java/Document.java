import java.io.IOException;
import java.nio.charset.StandardCharsets;
import java.nio.file.Files;
import java.nio.file.Path;
import java.util.ArrayList;
import java.util.Arrays;
import java.util.List;
import java.util.regex.Matcher;
import java.util.regex.Pattern;

/** DOC.md as a list of sentences, each with its section; a part before a semicolon is a sentence too. */
final class Document {
    /** Sentences that tell what others then say again, or what words mean: nothing of theirs can break alone. */
    private static final List<String> UNTESTED = Arrays.asList(
            "A packet scheduler for one link that is fair in delivered bytes.",
            "what later calls answer is free.",
            "Packets are assigned to flows by rules;",
            "flows share the link by weights, by virtual times that are charged when a packet is sent, refunded when"
                    + " it is lost, and charged again when a late acknowledgment arrives.",
            "Flows that were idle are forgiven bursts of limited size.",
            "Audits measure how fair the delivered bytes were.",
            "Flows, rules, packets All numbers are integers.",
            "In the grammars terminals are quoted, * means any number of repetitions, brackets an optional part, and"
                    + " | separates alternatives.",
            "The ranges of numbers are given in parentheses.",
            "Error codes.");

    static final class Sentence {
        final String section;
        final String text;

        Sentence(String section, String text) {
            this.section = section;
            this.text = text;
        }

        /** What stands before the promises is said for all of them. */
        boolean isOf(int promise) {
            return !section.startsWith("Promise ") || section.startsWith("Promise " + promise + ":");
        }
    }

    private final List<Sentence> sentences = new ArrayList<>();
    private final StringBuilder paragraph = new StringBuilder();
    private String section = "";
    private boolean ended = false;

    private Document() {
    }

    static Document read(Path path) throws IOException {
        Document document = new Document();
        String fence = null;
        for (String line : Files.readAllLines(path, StandardCharsets.UTF_8)) {
            if (line.startsWith("```")) {
                document.endParagraph();
                fence = fence == null ? line : null;
            } else if (fence == null) {
                document.addLine(line);
            } else if (fence.equals("```text")) {
                document.addCodeLine(line);
            }
        }
        document.endParagraph();
        return document;
    }

    private void addLine(String line) {
        if (line.startsWith("#")) {
            endParagraph();
            section = line.replaceAll("^#+ *", "");
            ended = section.equals("Not promised");
        } else if (line.trim().isEmpty()) {
            endParagraph();
        } else {
            if (line.startsWith("- ")) {
                endParagraph();
            }
            paragraph.append(line.trim()).append(' ');
        }
    }

    /** Ticks and error codes are sentences with a number before them; a line of a grammar stays whole. */
    private void addCodeLine(String line) {
        if (line.trim().matches("[0-9][.:] .*")) {
            paragraph.append(line.trim().substring(3));
            endParagraph();
        } else if (!line.trim().isEmpty()) {
            sentences.add(new Sentence(section, line.trim()));
        }
    }

    private void endParagraph() {
        if (!ended) {
            for (String text : paragraph.toString().trim().split("(?<=[.;]) +")) {
                if (!text.isEmpty() && !UNTESTED.contains(text)) {
                    sentences.add(new Sentence(section, text));
                }
            }
        }
        paragraph.setLength(0);
    }

    List<Sentence> sentences() {
        return sentences;
    }

    boolean has(int promise, String words) {
        for (Sentence sentence : sentences) {
            if (sentence.isOf(promise) && sentence.text.contains(words)) {
                return true;
            }
        }
        return false;
    }

    /** Ranges in parentheses with the word before them, as a line of a grammar has several. */
    List<String> ranges() {
        List<String> ranges = new ArrayList<>();
        for (Sentence sentence : sentences) {
            Matcher matcher = Pattern.compile("[a-z]+ \\([^()]*\\bto [0-9]+[^()]*\\)").matcher(sentence.text);
            while (matcher.find()) {
                ranges.add(matcher.group());
            }
        }
        return ranges;
    }
}
