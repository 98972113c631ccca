import java.io.IOException;
import java.nio.file.Files;
import java.nio.file.Path;
import java.util.ArrayList;
import java.util.HashMap;
import java.util.List;
import java.util.Map;
import java.util.regex.Matcher;
import java.util.regex.Pattern;

/**
 * The sentences of the document, each with a test of its own: says tells which one the answers behind it belong to. In
 * the end each one that was told must stand in the document, and none that stands there may have been left out.
 */
final class Book {
    static final int USE = -1;
    static final int TERMS = 0;
    private static final Path DOCUMENT = Path.of("../shared/DOC.md");

    private final Check check = new Check("BoundsTest");
    private final Map<Integer, List<String>> quotes = new HashMap<>();
    private final Map<Way, String[]> known = new HashMap<>();
    private String sentence = "";
    private int lookedAt = 1;

    /** Of the use, the terms, or of a promise by its number. */
    void says(int section, String quote) {
        endSentence();
        sentence = (section == USE ? "use" : section == TERMS ? "terms" : "promise " + section) + ", '" + quote + "': ";
        quotes.computeIfAbsent(section, k -> new ArrayList<>()).add(quote);
    }

    private void endSentence() {
        check.holds(sentence + "a test of its own", lookedAt > 0);
        lookedAt = 0;
    }

    void due(String call, long got, long want) {
        lookedAt++;
        check.due(sentence + call, got, want);
    }

    void holds(String what, boolean isSo) {
        lookedAt++;
        check.holds(sentence + what, isSo);
    }

    /** The call is refused as due, and nothing that can be asked for is another by it. */
    void refused(String call, Way way, Ask ask, int want) {
        CleanNets x = new CleanNets();
        way.go(x);
        due(call, ask.of(x), want);
        due(call + ", asked again", ask.of(x), want);
        unchanged(call, way, ask);
    }

    /** A call that only asks. */
    void unchanged(String call, Way way, Ask ask) {
        String[] without = known.computeIfAbsent(way, Book::traces);
        String[] with = traces(way.then(ask::of));
        for (int part = 0; part < Trace.PARTS; part++) {
            holds(call + " changes nothing of part " + part + " (" + without[part] + ", then " + with[part] + ")",
                    with[part].equals(without[part]));
        }
    }

    /** Both ways lead to the same, as far as these parts go. */
    void same(String what, Way one, Way other, int... parts) {
        for (int part : parts) {
            String by = traceOf(one, part);
            String due = traceOf(other, part);
            holds(what + ", part " + part + " (" + by + ", due is " + due + ")", by.equals(due));
        }
    }

    private static String[] traces(Way way) {
        String[] traces = new String[Trace.PARTS];
        for (int part = 0; part < Trace.PARTS; part++) {
            traces[part] = traceOf(way, part);
        }
        return traces;
    }

    private static String traceOf(Way way, int part) {
        CleanNets x = new CleanNets();
        way.go(x);
        return Trace.of(x, part);
    }

    void end() throws IOException {
        endSentence();
        sentence = "";
        compareWithDocument();
        check.end();
    }

    private void compareWithDocument() throws IOException {
        String text = Files.readString(DOCUMENT).replaceAll("\\s+", " ");
        compare(USE, between(text, "may be missing.", "## The public face"));
        compare(TERMS, between(text, "## Terms", "## Promise 1:"));
        for (int promise = 1; promise <= 25; promise++) {
            String end = promise < 25 ? "## Promise " + (promise + 1) + ":" : "## Not promised";
            compare(promise, between(text, "## Promise " + promise + ":", end).replaceFirst("^[^`]*`[^`]*`: ", ""));
        }
    }

    private static String between(String text, String start, String end) {
        Matcher found = Pattern.compile(Pattern.quote(start) + "(.*?)" + Pattern.quote(end)).matcher(text);
        return found.find() ? found.group(1) : "";
    }

    private void compare(int section, String text) {
        String left = text;
        for (String quote : quotes.getOrDefault(section, List.of())) {
            int at = left.indexOf(quote);
            check.holds("section " + section + " of the document says '" + quote + "', which", at >= 0);
            if (at >= 0) {
                left = left.substring(0, at) + "|" + left.substring(at + quote.length());
            }
        }
        String bare = left.replaceAll("Ahead of the calls [`a-z, ]* the interface says:", "")
                .replaceAll("---- (1 the net|2 plans|3 what is done)", "").replaceAll("==== [123]|```(text)?", "");
        check.holds("section " + section + " has a test for '" + bare + "', which", !bare.matches(".*[A-Za-z0-9].*"));
    }
}
