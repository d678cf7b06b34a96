import java.io.IOException;
import java.nio.file.Files;
import java.nio.file.Path;
import java.util.LinkedHashMap;
import java.util.List;
import java.util.Map;
import java.util.regex.Matcher;
import java.util.regex.Pattern;

/**
 * The sentences of ../shared/DOC.md, by "What it is", "Term I" to "Term VI", "The constants" and
 * "Promise 1" to "Promise 26". A test names the sentence it is for in the document's own words; in the end no word
 * may be left that no test has named, so that no sentence is passed over.
 */
final class Document {
    private static final Path FILE = Path.of("../shared/DOC.md");
    private static final Pattern TERM = Pattern.compile("([IV]+)\\. (.*)");
    private static final Pattern PROMISE = Pattern.compile("## (Promise \\d+): .*");
    private static final Pattern WORDS = Pattern.compile(".*[A-Za-z0-9].*");
    private static final Map<String, String> SECTIONS = new LinkedHashMap<>();
    private static final Map<String, StringBuilder> UNNAMED = new LinkedHashMap<>();

    private Document() {
    }

    static void open() throws IOException {
        String section = "";
        boolean inTerms = false;
        for (String line : Files.readAllLines(FILE)) {
            Matcher term = TERM.matcher(line);
            Matcher promise = PROMISE.matcher(line);
            if (line.startsWith("## ")) {
                inTerms = line.equals("## Terms");
                section = line.equals("## What it is") ? "What it is" : promise.matches() ? promise.group(1) : "";
            } else if (inTerms && term.matches()) {
                section = "Term " + term.group(1);
                add(section, term.group(2));
            } else if (inTerms && line.startsWith("The constants: ")) {
                section = "The constants";
                add(section, line.substring("The constants: ".length()));
            } else if (!section.isEmpty() && !line.startsWith("```")) {
                add(section, line.replaceFirst("^`[^`]*`: ", ""));
            }
        }
        SECTIONS.forEach((name, text) -> UNNAMED.put(name, new StringBuilder(text)));
        Check.same("What it is, terms, the constants and promises in " + FILE, SECTIONS.size(), 1 + 6 + 1 + 26);
    }

    /** All that a section says, in one line. */
    static String text(String section) {
        return SECTIONS.getOrDefault(section, "");
    }

    /** The lines between the braces of "The public face". */
    static List<String> face() throws IOException {
        List<String> lines = Files.readAllLines(FILE);
        int open = lines.indexOf("public final class SailCargo {");
        return lines.subList(open + 1, open + 1 + lines.subList(open + 1, lines.size()).indexOf("}"));
    }

    private static void add(String section, String line) {
        if (!line.isBlank()) {
            SECTIONS.merge(section, line.strip(), (former, more) -> former + " " + more);
        }
    }

    static void name(String section, String sentence) {
        String text = text(section);
        int at = text.indexOf(sentence);
        Check.holds(section + " says \"" + sentence + "\", once", at >= 0 && text.lastIndexOf(sentence) == at);
        if (at >= 0) {
            UNNAMED.get(section).replace(at, at + sentence.length(), "\0".repeat(sentence.length()));
        }
    }

    static void everyWordIsNamed() {
        UNNAMED.forEach((section, text) -> {
            for (String left : text.toString().split("\0+")) {
                Check.holds(section + ": a test names \"" + left + "\"", !WORDS.matcher(left).matches());
            }
        });
    }
}
