import java.io.IOException;
import java.nio.file.Files;
import java.nio.file.Path;
import java.util.ArrayList;
import java.util.List;
import java.util.Map;
import java.util.Set;
import java.util.TreeMap;
import java.util.regex.Matcher;
import java.util.regex.Pattern;

/** The sentences of ../shared/DOC.md in its terms (section 0) and promises (by number), and which of them are tested. */
final class Document {
    static final int TERMS = 0;

    /** What names no edge of its own: an argument or an answer by its name, or what a call is for at all. */
    private static final Set<String> WITHOUT_EDGE = Set.of(
        "`fish`: the fish", "`rack`: the rack", "`hook`: the hook", "`side`: the side", "`wood`: the wood",
        "`weight`: its weight", "`character`: the character", "`isChar`: whether its char is told, and not its smoke",
        "Returns the number.", "Returns the fish.", "Returns the heat.", "Returns the hook.", "Returns the character.",
        "Returns the part.", "Returns the account.", "Returns how many.", "Returns how much.", "Returns how far.",
        "Returns whether it is.", "Returns an account.", "Returns a number of a fish.", "Returns the heat of a rack.",
        "Returns the smoke or the char of a side.", "Returns whether a fish is crowded.", "Returns whether a fish is done.",
        "Returns a number of the reason that is kept.", "Appends a character to the text buffer.", "Hangs a fish.",
        "Lays a fish into brine.", "Lays logs into the fire.", "Tells the wood of all logs.", "Lets a day go by for the brine.",
        "Lets hours go by.");

    private final Map<Integer, List<String>> untested = new TreeMap<>();
    private final Check check;

    Document(Check check, String root) throws IOException {
        this.check = check;
        String whole = Files.readString(Path.of(root, "..", "shared", "DOC.md"));
        for (String part : whole.split("\n## ")) {
            Matcher promise = Pattern.compile("Promise (\\d+):.*").matcher(part.lines().findFirst().orElse(""));
            if (promise.matches()) {
                read(Integer.parseInt(promise.group(1)), part);
            } else if (part.startsWith("Terms\n")) {
                read(TERMS, part);
            }
        }
        check.rule("document");
        check.due("sections read", untested.size(), 42);
    }

    private void read(int section, String part) {
        List<String> sentences = new ArrayList<>();
        String body = part.substring(part.indexOf('\n') + 1).strip();
        for (String paragraph : body.split("\n\n|\n(?=- )")) {
            String line = paragraph.replaceAll("\\s+", " ").replaceFirst("^- ", "").replaceFirst("^`[^`]*\\)[^`]*`: ", "");
            for (String sentence : line.split("(?<=[.]) (?=[A-Z])")) {
                // a single word is the heading of its paragraph
                if (!sentence.matches("\\w+\\.") && !WITHOUT_EDGE.contains(sentence)) {
                    sentences.add(sentence);
                }
            }
        }
        untested.put(section, sentences);
    }

    /** Runs the test of this sentence, which must stand there, and have no other such test. */
    void test(int section, String sentence, Runnable test) {
        check.promise(section, sentence);
        check.holds("the document says it, and it is tested once", untested.get(section).remove(sentence));
        check.guarded(test);
    }

    /** After all tests: whether a sentence has come into the document that has none, or a test has gone. */
    void allIsTested() {
        check.rule("document");
        untested.forEach((section, sentences) -> check.due("untested sentences of section " + section, sentences, List.of()));
    }
}
