import java.util.ArrayList;
import java.util.Arrays;
import java.util.List;
import java.util.regex.Matcher;
import java.util.regex.Pattern;

/**
 * Binds the tests of EdgeTests to the words of the document: says() tells which sentence the
 * answers that follow are about, and at the end no sentence may be left without one.
 */
final class Edges {
    /** For says(): the section 'Terms' in place of a promise's number. */
    static final int TERMS = 0;

    private static final int PROMISES = 42;

    private static final List<Integer> PLACES = new ArrayList<>();
    private static final List<String> QUOTES = new ArrayList<>();
    private static final List<Integer> ANSWERS = new ArrayList<>();

    private Edges() {
    }

    static void says(int promise, String quote) {
        PLACES.add(promise);
        QUOTES.add(quote);
        ANSWERS.add(0);
    }

    static void is(String what, long got, long want) {
        int latest = QUOTES.size() - 1;
        ANSWERS.set(latest, ANSWERS.get(latest) + 1);
        String place = PLACES.get(latest) == TERMS ? "Terms" : "P" + PLACES.get(latest);
        Due.is(place + " \"" + QUOTES.get(latest) + "\" " + what, got, want);
    }

    /** Goes on to a DAY, 60 DAYS at a time. */
    static KnivesGround toDay(KnivesGround x, int day) {
        while (x.count(1) < day && x.days(Math.min(60, day - x.count(1))) >= 0) {
            continue;
        }
        return x;
    }

    static void everySentenceHasATest(String doc) {
        for (int i = 0; i < QUOTES.size(); i++) {
            Due.is("answers asked of \"" + QUOTES.get(i) + "\"", ANSWERS.get(i) > 0 ? 1 : 0, 1);
        }
        for (int promise = TERMS; promise <= PROMISES; promise++) {
            oneSection(promise, section(doc, promise));
        }
    }

    private static void oneSection(int promise, String words) {
        boolean[] isSaid = new boolean[words.length()];
        for (int i = 0; i < QUOTES.size(); i++) {
            if (PLACES.get(i) == promise) {
                String quote = QUOTES.get(i);
                int at = words.indexOf(quote);
                Due.is("section " + promise + " holds \"" + quote + "\"", at >= 0 ? 1 : 0, 1);
                for (; at >= 0; at = words.indexOf(quote, at + 1)) {
                    Arrays.fill(isSaid, at, at + quote.length(), true);
                }
            }
        }
        StringBuilder left = new StringBuilder();
        for (int i = 0; i < words.length(); i++) {
            left.append(isSaid[i] ? ' ' : words.charAt(i));
        }
        String bare = left.toString().replaceAll("\\s+", " ").trim();
        if (!bare.isEmpty()) {
            Due.is("section " + promise + ", words without a test: " + bare, 0, 1);
        }
    }

    /** The words of a section in one line, without the signature and what the interface says. */
    private static String section(String doc, int promise) {
        String head = promise == TERMS ? "## Terms" : "## Promise " + promise + ": .*";
        Matcher found = Pattern.compile("(?ms)^" + head.replace(".*", "[^\\n]*") + "$(.*?)(?=^## |\\z)").matcher(doc);
        Due.is("the document has section " + promise, found.find() ? 1 : 0, 1);
        return found.group(1).replaceAll("(?m)^Ahead of the calls .*$", "").replaceAll("(?m)^```.*$", "")
            .replaceAll("(?m)^`[^`]*`:", "").replaceAll("\\s+", " ");
    }
}
