import java.io.IOException;
import java.nio.file.Files;
import java.nio.file.Path;
import java.util.ArrayList;
import java.util.BitSet;
import java.util.List;
import java.util.Map;
import java.util.TreeMap;
import java.util.regex.Matcher;
import java.util.regex.Pattern;

/** The document's own words, so that a test which quotes them is known to quote them rightly, and none is left out. */
final class Doc {
    static final int TERMS = 0, PROMISES = 31;
    private static final Pattern CLAUSE_END = Pattern.compile("(?<=[^ .])\\. |; ");

    private final Map<Integer, String> sections = new TreeMap<>();
    private final Map<Integer, BitSet> quoted = new TreeMap<>();
    private final boolean missing;

    /** Without the file the tests are run all the same; only what they quote is not looked up. */
    Doc(Path file) throws IOException {
        missing = !Files.exists(file);
        if (missing) {
            System.out.println("no " + file + ": what the tests quote is not looked up");
            return;
        }
        for (String section : Files.readString(file).split("(?m)^## ")) {
            Matcher head = Pattern.compile("(?:Terms|Promise (\\d+): \\w.*)\\n").matcher(section);
            if (head.lookingAt()) {
                int number = head.group(1) == null ? TERMS : Integer.parseInt(head.group(1));
                sections.put(number, section.substring(head.end()).replaceAll("\\s+", " ").trim() + " ");
                quoted.put(number, new BitSet());
            }
        }
    }

    /** Whether the words stand in the promise itself or, for all promises, in the terms. */
    boolean quote(int promise, String words) {
        return missing || quoteIn(promise, words) || quoteIn(TERMS, words);
    }

    private boolean quoteIn(int number, String words) {
        String text = sections.getOrDefault(number, "");
        int at = text.indexOf(words);
        if (at >= 0) {
            quoted.get(number).set(at, at + words.length());
        }
        return at >= 0;
    }

    boolean hasAll() {
        return missing
            || sections.size() == PROMISES + 1 && sections.containsKey(TERMS) && sections.containsKey(PROMISES);
    }

    /** The clauses of which no test has quoted a word. */
    List<String> unquoted() {
        List<String> left = new ArrayList<>();
        for (int number : sections.keySet()) {
            String text = sections.get(number);
            Matcher end = CLAUSE_END.matcher(text);
            int from = 0;
            while (end.find()) {
                addUnlessQuoted(left, number, from, end.end());
                from = end.end();
            }
            addUnlessQuoted(left, number, from, text.length());
        }
        return left;
    }

    private void addUnlessQuoted(List<String> left, int number, int from, int to) {
        String clause = sections.get(number).substring(from, to);
        int next = quoted.get(number).nextSetBit(from);
        boolean tellsSomething = clause.matches("(?s).*\\w.*") && !clause.contains("the interface says");
        if (tellsSomething && (next < 0 || next >= to)) {
            left.add((number == TERMS ? "Terms" : "Promise " + number) + ": " + clause);
        }
    }
}
