import java.io.IOException;
import java.nio.file.Files;
import java.nio.file.Path;
import java.util.Set;
import java.util.TreeSet;

/**
 * Tests for single sentences of the document, each told by the number of its promise, or by 0 if it
 * stands ahead of the promises, and by its words.
 */
final class Sentences {
    private static final Path DOCUMENT = Path.of("../shared/DOC.md");
    /** A heading of two words, and a sentence without a boundary. */
    private static final Set<String> NOT_OWED =
            Set.of(named(0, "Half hours."), named(0, "Water in is water and brine out."));
    private static final Set<String> TESTED = new TreeSet<>();

    private Sentences() {
    }

    static void test(int promise, String words, Runnable test) {
        String name = named(promise, words);
        Check.about(name + ": ");
        Check.dueBool("the sentence has one test", true, TESTED.add(name));
        int before = Check.looked();
        try {
            test.run();
        } catch (RuntimeException e) {
            Check.due("the test ends", "nothing thrown", e.toString());
        }
        Check.dueBool("the test looks at answers", true, Check.looked() > before);
        Check.about("");
    }

    private static String named(int promise, String words) {
        return "promise " + promise + ", " + words;
    }

    /** Every sentence that names a boundary has been tested, and every tested one is the document's. */
    static void compare() throws IOException {
        if (!Files.exists(DOCUMENT)) {
            System.out.println("no " + DOCUMENT + ": its sentences are not compared with those tested");
            return;
        }
        Set<String> all = new TreeSet<>();
        Set<String> owed = new TreeSet<>();
        read(all, owed);
        Set<String> foreign = new TreeSet<>(TESTED);
        foreign.removeAll(all);
        Check.due("tested, but not in the document", Set.of(), foreign);
        owed.removeAll(TESTED);
        owed.removeAll(NOT_OWED);
        Check.due("in the document, but not tested", Set.of(), owed);
    }

    private static void read(Set<String> all, Set<String> owed) throws IOException {
        int promise = 0;
        String section = "";
        for (String line : Files.readAllLines(DOCUMENT)) {
            if (line.startsWith("## ")) {
                section = line.substring(3);
                promise = promiseOf(section);
            }
            // The signature ahead of a promise's first sentence is for FaceTest.
            String words = line.replaceFirst("^`[^`]*`: ", "");
            if (promise > 0) {
                put(promise, words, words.startsWith("Throws ") || words.matches(".*\\d.*"), all, owed);
            } else if (!line.startsWith("Ahead of the calls ")) {
                for (String sentence : words.split("(?<=\\.) ")) {
                    put(0, sentence, section.equals("Terms") && sentence.contains(" "), all, owed);
                }
            }
        }
    }

    private static int promiseOf(String section) {
        String number = section.replaceFirst("^Promise (\\d+): .*$", "$1");
        return number.equals(section) ? 0 : Integer.parseInt(number);
    }

    private static void put(int promise, String words, boolean isOwed, Set<String> all, Set<String> owed) {
        if (words.isEmpty() || words.startsWith("#")) {
            return;
        }
        all.add(named(promise, words));
        if (isOwed) {
            owed.add(named(promise, words));
        }
    }
}
