import java.io.IOException;
import java.nio.file.Files;
import java.nio.file.Path;
import java.util.BitSet;
import java.util.Map;
import java.util.TreeMap;
import java.util.function.Consumer;

/**
 * Tests told by a promise's number and by the document's own words for what they test.
 * The words have to stand just once in that promise, and in the end all words of the document have to be told.
 */
final class Edges {
    /** The numbers of what stands ahead of the promises. */
    static final int ABOUT = -1;
    static final int TERMS = 0;
    static final int PROMISES = 45;

    private final Map<Integer, String> sections = new TreeMap<>();
    private final Map<Integer, BitSet> told = new TreeMap<>();
    private int tests;
    private int asked;
    private int broken;

    Edges(Path document) throws IOException {
        int section = Integer.MIN_VALUE;
        for (String line : Files.readAllLines(document)) {
            if (line.startsWith("## ")) {
                section = numberOf(line);
                sections.put(section, "");
                told.put(section, new BitSet());
            } else if (!line.startsWith("```")) {
                String words = wordsOf(line);
                sections.computeIfPresent(section, (n, text) -> (text + " " + words).replaceAll("\\s+", " "));
            }
        }
        for (int promise = 1; promise <= PROMISES; promise++) {
            sections.computeIfPresent(promise, (n, text) -> text.replaceFirst("^ *`[^`]*`: ", ""));
        }
    }

    private static int numberOf(String title) {
        if (title.startsWith("## Promise ")) {
            return Integer.parseInt(title.substring("## Promise ".length(), title.indexOf(':')));
        }
        return title.equals("## Terms") ? TERMS : title.equals("## What it is") ? ABOUT : Integer.MIN_VALUE;
    }

    /** A line without what only orders the text: the number of a term, and ahead of which calls something stands. */
    private static String wordsOf(String line) {
        if (line.startsWith("Ahead of the calls ")) {
            return line.contains(" (") ? line.substring(line.indexOf("----")) : "";
        }
        return line.replaceFirst("^[12]\\. ", "");
    }

    private static String nameOf(int section) {
        return section > TERMS ? "promise " + section : section == TERMS ? "terms" : "about";
    }

    /** One test of its own, of the words that stand in a promise (TERMS, ABOUT: ahead of the promises). */
    void edge(int promise, String words, Consumer<Check> test) {
        String name = nameOf(promise) + " \"" + words + "\"";
        String text = sections.getOrDefault(promise, "");
        int from = text.indexOf(words);
        if (from < 0 || text.indexOf(words, from + 1) >= 0) {
            broken++;
            System.out.println(name + ": the document does not say it just once");
        } else {
            told.get(promise).set(from, from + words.length());
        }
        Check check = new Check(name);
        test.accept(check);
        tests++;
        asked += check.asked();
        if (check.asked() == 0) {
            System.out.println(name + ": nothing is asked");
        }
        broken += check.wrong() > 0 || check.asked() == 0 ? 1 : 0;
    }

    /** Words of a part of the document that no test tells; | stands for those that one tells. */
    private String untold(int section) {
        String text = sections.get(section);
        StringBuilder left = new StringBuilder();
        for (int i = 0; i < text.length(); i++) {
            left.append(told.get(section).get(i) ? '|' : text.charAt(i));
        }
        return left.toString().replaceAll("[^|A-Za-z0-9]*\\|[^A-Za-z0-9]*", "|");
    }

    void end() {
        for (int section = ABOUT; section <= PROMISES; section++) {
            String left = sections.containsKey(section) ? untold(section) : "no such part of the document";
            if (left.matches(".*[A-Za-z0-9].*")) {
                broken++;
                System.out.println(nameOf(section) + ": no test tells " + left);
            }
        }
        System.out.println("EdgesTest: " + tests + " sentences, " + asked + " asked, " + broken + " broken");
        if (broken != 0) {
            System.exit(1);
        }
    }
}
