import java.nio.file.Files;
import java.nio.file.Path;
import java.util.ArrayList;
import java.util.Arrays;
import java.util.List;
import java.util.Map;
import java.util.TreeMap;
import java.util.regex.Matcher;
import java.util.regex.Pattern;
import java.util.stream.Stream;

/**
 * That the tests leave no sentence out: what they quote by says(promise, words) stands in the document, and the words
 * of its Terms and of each promise are quoted all.
 */
public final class QuotesTest {
    private static final Path DOCUMENT = Path.of("../shared/DOC.md");
    private static final Path TESTS = Path.of("src/test/java");
    private static final Pattern SAYS = Pattern.compile("\\bsays\\((\\d+), \"((?:[^\"\\\\]|\\\\.)*)\"\\)");
    private static final Pattern PROMISE = Pattern.compile("## Promise (\\d+):[^\n]*\n");

    private static int wrong = 0;

    private static void tell(int promise, String what) {
        wrong++;
        System.out.println((promise == 0 ? "Terms" : "promise " + promise) + ": " + what);
    }

    private static String plain(String text) {
        return text.replaceAll("\\s+", " ").strip();
    }

    /** The words of the Terms (0) and of each promise, without headings, signatures and the numbers of parts. */
    private static Map<Integer, String> sections(String document) {
        Map<Integer, String> all = new TreeMap<>();
        String terms = document.substring(document.indexOf("## Terms"), document.indexOf("The constants:"));
        all.put(0, plain(terms.replaceFirst("## Terms", "").replaceAll("```(text)?", " ").replaceAll("==== \\d\\.", " ")));
        Matcher m = PROMISE.matcher(document);
        while (m.find()) {
            int end = document.indexOf("\n## ", m.end());
            String body = document.substring(m.end(), end == -1 ? document.length() : end);
            all.put(Integer.parseInt(m.group(1)), plain(body.replaceFirst("`[^`]*`:", " ")));
        }
        return all;
    }

    private static Map<Integer, List<String>> quotes() throws Exception {
        Map<Integer, List<String>> all = new TreeMap<>();
        try (Stream<Path> files = Files.list(TESTS)) {
            for (Path file : files.filter(f -> f.toString().endsWith(".java")).sorted().toList()) {
                Matcher m = SAYS.matcher(Files.readString(file));
                while (m.find()) {
                    all.computeIfAbsent(Integer.parseInt(m.group(1)), k -> new ArrayList<>()).add(plain(m.group(2)));
                }
            }
        }
        return all;
    }

    private static void compare(int promise, String section, List<String> quotes) {
        boolean[] quoted = new boolean[section.length()];
        for (String quote : quotes) {
            int at = section.indexOf(quote);
            if (at == -1) {
                tell(promise, "the document does not say: " + quote);
            }
            while (at != -1) {
                Arrays.fill(quoted, at, at + quote.length(), true);
                at = section.indexOf(quote, at + 1);
            }
        }
        StringBuilder left = new StringBuilder();
        for (int i = 0; i < quoted.length; i++) {
            left.append(quoted[i] ? '\n' : section.charAt(i));
        }
        for (String rest : left.toString().split("\n+")) {
            if (rest.chars().anyMatch(Character::isLetterOrDigit)) {
                tell(promise, "no test quotes: " + rest.strip());
            }
        }
    }

    public static void main(String[] args) throws Exception {
        if (!Files.exists(DOCUMENT)) {
            System.out.println("there is no document to compare with");
            return;
        }
        Map<Integer, String> sections = sections(Files.readString(DOCUMENT));
        Map<Integer, List<String>> quotes = quotes();
        int sentences = 0;
        for (int promise : sections.keySet()) {
            List<String> ofIt = quotes.getOrDefault(promise, List.of());
            compare(promise, sections.get(promise), ofIt);
            sentences += ofIt.size();
        }
        for (int promise : quotes.keySet()) {
            if (!sections.containsKey(promise)) {
                tell(promise, "the document has no such promise");
            }
        }
        System.out.println(sentences + " sentences are quoted by tests, " + wrong + " faults");
        if (wrong != 0) {
            System.exit(1);
        }
    }
}
