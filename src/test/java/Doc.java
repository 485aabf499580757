import java.io.IOException;
import java.nio.file.Files;
import java.nio.file.Path;
import java.util.Map;
import java.util.TreeMap;
import java.util.regex.Matcher;
import java.util.regex.Pattern;

/**
 * The document, as the tests of its edges quote it: a quote must stand there and have a check behind it,
 * and nothing of the terms and promises may be left that no test quotes.
 */
final class Doc {
    static final int TERMS = 0;

    private static final Path PLACE = Path.of("../shared/DOC.md");
    private static final Map<Integer, String> SECTIONS = new TreeMap<>();
    private static final Map<Integer, boolean[]> QUOTED = new TreeMap<>();
    private static int section = TERMS;
    private static String sentence = "";
    private static int checksBefore = 0;

    private Doc() {
    }

    /** Without the document's file the checks are made all the same; only quotes are not looked up. */
    static void open() throws IOException {
        if (!Files.isReadable(PLACE)) {
            System.out.println("  " + PLACE + " is not there: quotes are not looked up");
            return;
        }
        Matcher part = Pattern.compile("(?ms)^## (Terms|Promise (\\d+))\\b[^\n]*\n(.*?)(?=^## |\\z)")
            .matcher(Files.readString(PLACE));
        while (part.find()) {
            boolean terms = part.group(2) == null;
            String text = terms ? part.group(3).replaceFirst("(?s)\nThe constants: .*", "") : part.group(3);
            keep(terms ? TERMS : Integer.parseInt(part.group(2)), text);
        }
        Due.due("sections of the document", SECTIONS.size(), 35);
    }

    private static void keep(int number, String text) {
        String plain = text.replaceAll("(?m)^```.*$", "").replaceAll("(?m)^\\d+\\. ", "")
            .replaceFirst("(?m)^`[^`]*`: ", "").replaceAll("\\s+", " ").strip();
        SECTIONS.put(number, plain);
        QUOTED.put(number, new boolean[plain.length()]);
    }

    static void promise(int number) {
        endSentence();
        section = number;
    }

    /** The checks that follow are those of this sentence. */
    static void says(String quote) {
        endSentence();
        sentence = quote;
        if (!SECTIONS.isEmpty()) {
            mark(quote);
        }
    }

    private static void mark(String quote) {
        String text = SECTIONS.getOrDefault(section, "");
        boolean[] quoted = QUOTED.getOrDefault(section, new boolean[0]);
        int at = text.indexOf(quote);
        Due.check(here() + "this stands nowhere in the section", at >= 0);
        // One and the same wording may stand in a section twice: then two tests quote it.
        while (at >= 0 && quoted[at] && text.indexOf(quote, at + 1) >= 0) {
            at = text.indexOf(quote, at + 1);
        }
        for (int i = 0; at >= 0 && i < quote.length(); i++) {
            quoted[at + i] = true;
        }
    }

    private static void endSentence() {
        if (!sentence.isEmpty()) {
            Due.check(here() + "this has no check", Due.count() > checksBefore);
        }
        sentence = "";
        checksBefore = Due.count();
    }

    static String here() {
        return (section == TERMS ? "terms" : "promise " + section) + ", \"" + sentence + "\": ";
    }

    static void close() {
        endSentence();
        for (int number : SECTIONS.keySet()) {
            StringBuilder left = new StringBuilder();
            for (int i = 0; i < QUOTED.get(number).length; i++) {
                char c = SECTIONS.get(number).charAt(i);
                left.append(QUOTED.get(number)[i] || !Character.isLetterOrDigit(c) && c != ' ' ? "" : c);
            }
            String rest = left.toString().strip();
            Due.check("section " + number + " has what no test quotes: " + rest, rest.isEmpty());
        }
    }
}
