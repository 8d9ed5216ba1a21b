import java.io.IOException;
import java.nio.file.Files;
import java.nio.file.Path;
import java.util.ArrayList;
import java.util.LinkedHashMap;
import java.util.List;
import java.util.Map;
import java.util.regex.Matcher;
import java.util.regex.Pattern;

/** The document's sentences, by section: "Terms", "Terms 1" to "Terms 3", "Promise 1" to "Promise 46". */
final class Doc {
    private static final Path PLACE = Path.of("../shared/DOC.md");
    private static final Map<String, List<String>> SENTENCES = read();

    private Doc() {
    }

    static Map<String, List<String>> sentences() {
        return SENTENCES;
    }

    /** Whether the words stand in one sentence of a section. */
    static boolean has(String section, String words) {
        for (String sentence : SENTENCES.getOrDefault(section, List.of())) {
            if (sentence.contains(words)) {
                return true;
            }
        }
        return false;
    }

    private static Map<String, List<String>> read() {
        String doc;
        try {
            doc = Files.readString(PLACE);
        } catch (IOException e) {
            throw new IllegalStateException("the tests of boundary cases quote " + PLACE + ", which can't be read", e);
        }
        Map<String, List<String>> sentences = new LinkedHashMap<>();
        terms(doc, sentences);
        Matcher promise = Pattern.compile("(?m)^## (Promise \\d+): .*\\n\\n`[^`]*`: (.*)$").matcher(doc);
        while (promise.find()) {
            sentences.put(promise.group(1), split(promise.group(2)));
        }
        return sentences;
    }

    private static void terms(String doc, Map<String, List<String>> sentences) {
        int begin = doc.indexOf("## Terms");
        int end = doc.indexOf("Ahead of the calls", begin);
        String terms = doc.substring(begin + "## Terms".length(), end).replace("```text", "").replace("```", "");
        String[] parts = terms.split("(?m)^(?=[123]\\. )");
        for (int i = 0; i < parts.length; i++) {
            sentences.put(i == 0 ? "Terms" : "Terms " + i, split(parts[i].replaceFirst("^[123]\\. ", "")));
        }
    }

    /** A sentence ends with a full stop, behind which a capital or a bracket begins the next ("0, 1, .." goes on). */
    private static List<String> split(String text) {
        List<String> sentences = new ArrayList<>();
        for (String sentence : text.strip().replaceAll("\\s+", " ").split("(?<=[^.]\\.) (?=[A-Z(])")) {
            sentences.add(sentence);
        }
        return sentences;
    }
}
