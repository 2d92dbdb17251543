import java.io.IOException;
import java.nio.charset.StandardCharsets;
import java.nio.file.Files;
import java.nio.file.Path;
import java.util.ArrayList;
import java.util.List;

/** The sentences of the document, each of which must be named by a test of edges. */
final class Sentences {
    /** The section of each sentence: a promise's number, or 0 for what belongs to all of them. */
    private final List<Integer> sections = new ArrayList<>();
    private final List<String> units = new ArrayList<>();

    private Sentences() {
    }

    static Sentences of(Path document) throws IOException {
        String text = Files.readString(document, StandardCharsets.UTF_8);
        Sentences all = new Sentences();
        for (String part : text.split("(?m)^## ")) {
            int line = part.indexOf('\n');
            String title = line < 0 ? part : part.substring(0, line);
            String body = line < 0 ? "" : part.substring(line);
            if (title.startsWith("Promise ")) {
                all.addPromise(Integer.parseInt(title.replaceAll("Promise (\\d+):.*", "$1")), body);
            } else if (title.equals("Terms")) {
                all.addTerms(body);
            } else if (title.equals("What it is")) {
                // its first paragraph says what the class is for, the second how far it is used
                all.addTerms(body.trim().substring(body.trim().indexOf("\n\n") + 2));
            }
        }
        return all;
    }

    /** A line that begins with the call's own form, a bullet of an argument, or a sentence. */
    private void addPromise(int number, String body) {
        for (String line : body.split("\n")) {
            if (!line.isBlank()) {
                sections.add(number);
                units.add(line.replaceAll("^`[^`]*`: ", "").replaceAll("^- ", "").trim());
            }
        }
    }

    private void addTerms(String body) {
        for (String paragraph : body.split("\n\n")) {
            String text = paragraph.replaceAll("\\s+", " ").trim();
            if (!text.startsWith("Ahead of the calls")) {
                for (String sentence : text.split("(?<=[.;]) ")) {
                    if (sentence.indexOf(' ') > 0) {
                        sections.add(0);
                        units.add(sentence);
                    }
                }
            }
        }
    }

    int size() {
        return units.size();
    }

    /** Tells each sentence that no test named, and each named one that the document has not. */
    void compareWith(List<Integer> promises, List<String> named) {
        for (int i = 0; i < units.size(); i++) {
            boolean found = false;
            for (int k = 0; k < named.size(); k++) {
                found = found || stands(i, promises.get(k), named.get(k));
            }
            Check.same("promise " + sections.get(i) + " names: " + units.get(i), found, true);
        }
        for (int k = 0; k < named.size(); k++) {
            boolean found = false;
            for (int i = 0; i < units.size(); i++) {
                found = found || stands(i, promises.get(k), named.get(k));
            }
            Check.same("in the document: " + promises.get(k) + " " + named.get(k), found, true);
        }
    }

    private boolean stands(int unit, int promise, String named) {
        return (sections.get(unit) == 0 || sections.get(unit) == promise)
                && units.get(unit).contains(named);
    }
}
