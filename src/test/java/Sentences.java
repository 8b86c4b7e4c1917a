import java.io.IOException;
import java.nio.file.Files;
import java.nio.file.Path;
import java.util.ArrayList;
import java.util.LinkedHashMap;
import java.util.LinkedHashSet;
import java.util.List;
import java.util.Map;
import java.util.Set;
import java.util.function.Consumer;

/**
 * The sentences of the document and the tests that stand for them. A test is told of its sentence by the words with
 * which it begins in the document, so that a sentence that is another one now, or has no test, is found out.
 */
final class Sentences {
    private static final Path DOCUMENT = Path.of("..", "shared", "DOC.md");

    private final Map<String, Set<String>> due = new LinkedHashMap<>();
    private final Map<String, Set<String>> extra = new LinkedHashMap<>();
    private final Set<String> covered = new LinkedHashSet<>();
    private final Set<String> tested = new LinkedHashSet<>();
    private String section = "";
    private String sentence = "";

    Sentences() throws IOException {
        String now = "";
        for (String paragraph : Files.readString(DOCUMENT).replace("</h2>", "</h2>\n\n").split("\n\\s*\n")) {
            String text = paragraph.replaceAll("\\s+", " ").trim();
            if (text.startsWith("## ") || text.startsWith("<h2>")) {
                now = text.replaceAll("## |</?h2>|:.*", "").trim();
                due.put(now, new LinkedHashSet<>());
                extra.put(now, new LinkedHashSet<>());
            } else if (text.startsWith("- `")) {
                addParameters(now, paragraph);
            } else if (!now.isEmpty() && !text.startsWith("```")) {
                addSentences(now, text.replaceFirst("^`[^`]*\\)[^`]*`: ", ""));
            }
        }
    }

    /** A parameter needs a test of its own where more than its name is said. */
    private void addParameters(String where, String paragraph) {
        for (String line : paragraph.split("\n")) {
            (line.contains(",") ? due : extra).get(where).add(line.substring(2).trim());
        }
    }

    private void addSentences(String where, String text) {
        for (String found : text.split("(?<=\\.) (?=[A-Z])")) {
            due.get(where).add(found);
        }
    }

    Sentences in(String newSection) {
        Check.due("a section " + newSection, due.containsKey(newSection), true);
        section = newSection;
        return this;
    }

    Sentences promise(int number) {
        return in("Promise " + number);
    }

    /** The sentence that begins so; more than one if they say the same. */
    Sentences says(String... beginnings) {
        for (String beginning : beginnings) {
            sentence = only(beginning);
            covered.add(section + ": " + sentence);
        }
        return this;
    }

    /** Sentences that name nothing that could be tested by itself. */
    Sentences leaves(String... beginnings) {
        return says(beginnings);
    }

    private String only(String beginning) {
        List<String> found = new ArrayList<>();
        Set<String> all = new LinkedHashSet<>(due.getOrDefault(section, Set.of()));
        all.addAll(extra.getOrDefault(section, Set.of()));
        for (String candidate : all) {
            if (candidate.startsWith(beginning)) {
                found.add(candidate);
            }
        }
        Check.about("");
        Check.due(section + ": sentences that begin with '" + beginning + "'", found.size(), 1);
        return found.isEmpty() ? beginning : found.get(0);
    }

    Sentences test(String what, Consumer<HammerDepot> body) {
        String name = section + ": " + sentence + " [" + what + "] ";
        Check.due("a new name for the test " + name, tested.add(name), true);
        Check.about(name);
        try {
            body.accept(new HammerDepot());
        } catch (RuntimeException | StackOverflowError e) {
            Check.due("the call", e, "an answer");
        }
        Check.about("");
        return this;
    }

    void requireAll(String... without) {
        for (Map.Entry<String, Set<String>> entry : due.entrySet()) {
            if (!List.of(without).contains(entry.getKey())) {
                for (String each : entry.getValue()) {
                    String name = entry.getKey() + ": " + each;
                    Check.due("a test for " + name, covered.contains(name), true);
                }
            }
        }
        System.out.println(covered.size() + " sentences, " + tested.size() + " tests");
    }
}
