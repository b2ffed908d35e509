import java.io.IOException;
import java.lang.reflect.Method;
import java.nio.file.Files;
import java.nio.file.Path;
import java.util.ArrayList;
import java.util.LinkedHashMap;
import java.util.List;
import java.util.Map;
import java.util.regex.Matcher;
import java.util.regex.Pattern;

/** Each clause of the document that a call can break is borne by a test, and each test bears words that stand there. */
public final class SentencesTest {
    private static final Class<?>[] TESTS = {SetupEdgesTest.class, SystemEdgesTest.class, SwitchEdgesTest.class,
        TrainEdgesTest.class, SetEdgesTest.class, StateEdgesTest.class};

    /** Lines of parameters that name no bound of their own: their edges are those of the lines with Throws or Returns. */
    private static final String UNBOUND = "\\w+: (a|another) point|\\w+: number of (a triple|a quadrilateral|a cycle of a and b)"
        + "|[a-e]: (first|next|last) four bytes|length: new length|set: a bit mask of points|most: true for the most, false for the fewest";

    /** The first sentence of a promise says what is asked; its edges are those of the lines behind it. */
    private static final String ASKED = "(Truncates|Returns|Tells|Finds|Counts|Adds|Removes|Switches|Forecasts|Turns|Undoes|Restores|"
        + "Closes|Exchanges|Develops|Writes|Loads|Appends|Creates|Saves) .*";

    /** Headings, and words that only open a list. */
    private static final String HEADING = "(Systems|Quadrilaterals|Cycles|Trains|Turns|Setup text)\\.|N stands for a number:"
        + "|Triple systems: .*|quadrilaterals and cycles that are switched, .*|The constants:.*|what later calls answer is free\\.";

    /** For each promise, 0 for the terms, its lines as one text without marks. */
    private static Map<Integer, List<String>> sections(String document) {
        Map<Integer, List<String>> all = new LinkedHashMap<>();
        int promise = 0;
        boolean face = false;
        for (String raw : document.split("\n")) {
            Matcher heading = Pattern.compile("## (.*)").matcher(raw);
            if (heading.matches()) {
                Matcher number = Pattern.compile("Promise (\\d+):.*").matcher(heading.group(1));
                promise = number.matches() ? Integer.parseInt(number.group(1)) : heading.group(1).equals("Not promised") ? -1 : 0;
            } else if (raw.startsWith("```")) {
                face = raw.startsWith("```java");
            } else if (!face && promise >= 0 && !raw.isBlank() && !raw.startsWith("#")) {
                all.computeIfAbsent(promise, p -> new ArrayList<>()).add(plain(raw));
            }
        }
        return all;
    }

    private static String plain(String line) {
        return line.replaceFirst("^`[\\w ]+\\([^`]*\\)[^`]*`: ", "").replace("`", "").replaceFirst("^- ", "")
            .replaceAll("\\s+", " ").trim();
    }

    private static List<String> clauses(String line) {
        List<String> all = new ArrayList<>();
        for (String sentence : line.split("(?<=[.]) (?=[A-Z\\d])"))
            for (String clause : sentence.split("; ")) all.add(clause);
        return all;
    }

    private static boolean needsTest(int promise, String clause, boolean first) {
        if (clause.matches(UNBOUND) || clause.matches(HEADING)) return false;
        return promise == 0 || !(first && clause.matches(ASKED));
    }

    private static boolean bears(List<String> quotes, String clause) {
        for (String quote : quotes)
            if (clause.contains(quote) || quote.contains(clause)) return true;
        return false;
    }

    private static Map<Integer, List<String>> quotes(Map<Integer, List<String>> sections) {
        Map<Integer, List<String>> all = new LinkedHashMap<>();
        for (Class<?> tests : TESTS)
            for (Method test : tests.getDeclaredMethods()) {
                Says says = test.getAnnotation(Says.class);
                if (says == null) continue;
                all.computeIfAbsent(says.at(), p -> new ArrayList<>()).add(says.line());
                String text = String.join("\n", sections.getOrDefault(says.at(), List.of()));
                Check.due("the words of " + test.getName() + " stand in the document", true, text.contains(says.line()));
            }
        return all;
    }

    public static void main(String[] args) throws IOException {
        Map<Integer, List<String>> sections = sections(Files.readString(Path.of("../shared/DOC.md")));
        Check.due("promises and terms", 65, sections.size());
        Map<Integer, List<String>> quotes = quotes(sections);
        for (Map.Entry<Integer, List<String>> section : sections.entrySet()) {
            boolean first = true;
            for (String line : section.getValue())
                for (String clause : clauses(line)) {
                    if (needsTest(section.getKey(), clause, first)) {
                        boolean borne = bears(quotes.getOrDefault(section.getKey(), List.of()), clause);
                        Check.due("a test for promise " + section.getKey() + ": " + clause, true, borne);
                    }
                    first = false;
                }
        }
        Check.end();
    }
}
