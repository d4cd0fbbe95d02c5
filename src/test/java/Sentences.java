import java.util.ArrayList;
import java.util.List;

/** Sentences of the document, section by section, each with the test of its own that holds it. */
final class Sentences {
    record Sentence(String section, String text, Runnable test) {
    }

    private final List<Sentence> all = new ArrayList<>();
    private String section = "";

    Sentences in(String heading) {
        section = heading;
        return this;
    }

    Sentences holds(String text, Runnable test) {
        all.add(new Sentence(section, text, test));
        return this;
    }

    List<Sentence> all() {
        return all;
    }
}
