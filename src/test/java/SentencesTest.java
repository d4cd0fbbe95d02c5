import java.io.IOException;
import java.nio.file.Files;
import java.nio.file.Path;
import java.util.ArrayList;
import java.util.Comparator;
import java.util.HashSet;
import java.util.List;
import java.util.Set;
import java.util.regex.Matcher;
import java.util.regex.Pattern;
import java.util.stream.Stream;

/**
 * Every sentence of the document that promises something has a test of its own: what the tests
 * quote stands in the document, and nothing of it is left that no test quotes. The public face is
 * compared by RulesTest, line by line.
 */
public final class SentencesTest {
    private static final Path DOCUMENT = Path.of("../shared/DOC.md");
    private static final Path TESTS = Path.of("src/test/java");
    private static final int PROMISES = 20;

    /** Texts that promise nothing by themselves. */
    private static final String[] NO_PROMISES = {
        "A simulator of a switched converter with up to four phases: duty by feedforward and a regulator, a current "
            + "limit in each cycle, skipped pulses at light load, a soft start from any voltage, phases that are added "
            + "and shed with the load and balanced, protections, and programs of settings as texts.",
        "what later calls answer is free.",
        "Settings. Each setting has a number, a range, and a value at first:",
        "The state.",
        "Cycles. A cycle consists of the following steps:",
        "Slots. A slot s consists of the following steps:",
        "Input text.",
        "Exceptions.",
        "How the state is held inside the object is free, as are the speed of each call, the text of toString and "
            + "the behaviour of equals and hashCode.",
        "Use of one object from several threads at once is not promised to be safe.",
        "Nothing is promised beyond the answers and state changes described above, and nothing about an object "
            + "after its 512th call.",
    };

    public static void main(String[] args) throws IOException {
        String document = Files.readString(DOCUMENT);
        List<Sentences.Sentence> sentences = allSentences();
        int promises = 0;
        for (String section : document.split("(?m)^##? ")) {
            String heading = section.substring(0, Math.max(0, section.indexOf('\n')));
            promises += heading.startsWith("Promise ") ? 1 : 0;
            if (!heading.equals("The public face")) {
                everyWordIsQuoted(heading, plain(section.substring(heading.length())), sentences);
            }
        }
        Check.same("promises", promises, PROMISES);
        for (Sentences.Sentence sentence : sentences) {
            Check.fail("no such section: " + sentence.section() + ": " + sentence.text());
        }
        noTestIsSharedByTwoSentences();
        Check.end("SentencesTest");
    }

    private static List<Sentences.Sentence> allSentences() {
        List<Sentences.Sentence> all = new ArrayList<>();
        for (Sentences each : List.of(SettingsTest.sentences(), StateTest.sentences(), ModeTest.sentences(),
                CycleTest.sentences(), PhasesTest.sentences(), SlotTest.sentences(), ProgramTest.sentences(),
                CountTest.sentences(), OutlookTest.sentences(), SummaryTest.sentences(), ExceptionTest.sentences(),
                FaceTest.sentences())) {
            all.addAll(each.all());
        }
        // The longer ones first, so that a short one is not found within a longer one.
        all.sort(Comparator.comparingInt(sentence -> -sentence.text().length()));
        return all;
    }

    /** The text without its marks, and without the heads of the calls, which RulesTest compares. */
    private static String plain(String section) {
        return section.replaceAll("(?m)^`[^`\n]*`: ", "").replaceAll("(?m)^```.*$", "").replaceAll("(?m)^- ", "")
            .replaceAll("(?m)^\\d+\\. ", "").replace("`", "").replaceAll("\\s+", " ");
    }

    /** Takes the sentences of this section out of the text, and out of the list. */
    private static void everyWordIsQuoted(String heading, String text, List<Sentences.Sentence> sentences) {
        String left = text;
        List<Sentences.Sentence> here = new ArrayList<>(sentences);
        here.removeIf(sentence -> !sentence.section().equals(heading));
        sentences.removeAll(here);
        for (Sentences.Sentence sentence : here) {
            Check.yes("the document says in " + heading + ": " + sentence.text(), left.contains(sentence.text()));
            left = without(left, sentence.text());
        }
        for (String quote : NO_PROMISES) {
            left = without(left, quote);
        }
        if (!left.isBlank()) {
            Check.fail("no test quotes in " + heading + ": " + left.strip());
        }
    }

    private static String without(String text, String quote) {
        int at = text.indexOf(quote);
        return at < 0 ? text : text.substring(0, at) + "\n" + text.substring(at + quote.length());
    }

    private static void noTestIsSharedByTwoSentences() throws IOException {
        Pattern reference = Pattern.compile("\\b(\\w+Test::\\w+)\\)");
        Set<String> seen = new HashSet<>();
        List<Path> files;
        try (Stream<Path> all = Files.list(TESTS)) {
            files = all.filter(file -> file.toString().endsWith(".java")).toList();
        }
        for (Path file : files) {
            Matcher found = reference.matcher(Files.readString(file));
            while (found.find()) {
                Check.yes("a test of its own: " + found.group(1), seen.add(found.group(1)));
            }
        }
    }
}
