import java.io.IOException;
import java.nio.file.Files;
import java.nio.file.Path;
import java.util.ArrayList;
import java.util.LinkedHashMap;
import java.util.List;
import java.util.Map;
import java.util.regex.Matcher;
import java.util.regex.Pattern;

/**
 * The sentences of the document's terms (as promise 0, with that of 512 calls) and promises 1 to 51, and how many
 * checks stand under each: a sentence without one is a fault, and so is a check under words that the document does not say.
 */
final class Sentences {
    private static final Path DOCUMENT = Path.of("../shared/DOC.md");

    private final Map<String, Integer> checks = new LinkedHashMap<>();
    private String open = "";
    private int wrong = 0;

    Sentences() throws IOException {
        String text = Files.readString(DOCUMENT);
        keep(0, text.substring(text.indexOf("An object is used"), text.indexOf("## The public face")).trim());
        String terms = text.substring(text.indexOf("## Terms") + 8, text.indexOf("Ahead of the calls"));
        for (String line : terms.split("\n")) {
            if (!line.startsWith("```")) {
                keep(0, line.trim().replaceFirst("^==== \\d ", ""));
            }
        }
        Matcher m = Pattern.compile("## Promise (\\d+): [^\n]*\n\n`[^`]*`: ([^\n]*)\n").matcher(text);
        while (m.find()) {
            keep(Integer.parseInt(m.group(1)), m.group(2));
        }
    }

    private void keep(int promise, String line) {
        for (String sentence : parts(line)) {
            checks.put(key(promise, sentence), 0);
        }
    }

    /** Cut behind a full stop or a semicolon that stands in no bracket; two dots are no full stop. */
    private static List<String> parts(String line) {
        List<String> parts = new ArrayList<>();
        int depth = 0;
        int begun = 0;
        for (int i = 0; i < line.length(); i++) {
            char c = line.charAt(i);
            depth += c == '(' ? 1 : c == ')' ? -1 : 0;
            boolean last = i + 1 == line.length() || line.charAt(i + 1) == ' ';
            boolean stop = c == ';' || c == '.' && (i == 0 || line.charAt(i - 1) != '.');
            if (depth == 0 && last && stop) {
                parts.add(line.substring(begun, i).trim());
                begun = i + 1;
            }
        }
        if (begun < line.length()) {
            parts.add(line.substring(begun).trim());
        }
        return parts;
    }

    private static String key(int promise, String sentence) {
        return promise == 0 ? "terms: " + sentence : "promise " + promise + ": " + sentence;
    }

    /** What is checked from here on is what this sentence says. */
    void says(int promise, String sentence) {
        open = key(promise, sentence);
        if (!checks.containsKey(open)) {
            fault("the document does not say this");
        }
    }

    void due(String what, int got, int want) {
        checks.merge(open, 1, Integer::sum);
        if (got != want) {
            fault(what + " answered " + got + ", due is " + want);
        }
    }

    void fault(String what) {
        wrong++;
        System.out.println(open + "\n    " + what);
    }

    /** How many checks failed, or sentences have none. */
    int end() {
        int all = 0;
        for (Map.Entry<String, Integer> sentence : checks.entrySet()) {
            all += sentence.getValue();
            if (sentence.getValue() == 0) {
                wrong++;
                System.out.println(sentence.getKey() + "\n    no check stands under it");
            }
        }
        System.out.println(checks.size() + " sentences, " + all + " checks, " + wrong + " faults");
        return wrong;
    }
}
