import java.util.ArrayList;
import java.util.LinkedHashMap;
import java.util.List;
import java.util.Map;
import java.util.regex.Matcher;
import java.util.regex.Pattern;

/** The sentences of the document, and how many tests each of them has. */
final class Book {
    private static final Pattern HEADING = Pattern.compile("(?m)^## (.*)$");
    private static final Pattern PROMISE = Pattern.compile("Promise (\\d+): .*");
    private static final Pattern CONSTANT = Pattern.compile("(The constants: )?`(\\w+) = \\d+`: (.*)");

    // The key is where a sentence stands: a promise's number, a constant's name, or a heading.
    private final Map<String, Map<String, Integer>> tests = new LinkedHashMap<>();

    Book(String document) {
        Matcher heading = HEADING.matcher(document);
        List<String> titles = new ArrayList<>();
        while (heading.find()) {
            titles.add(heading.group(1));
        }
        String[] bodies = HEADING.split(document);
        for (int i = 0; i < titles.size(); i++) {
            if (!titles.get(i).equals("The public face") && !titles.get(i).equals("Not promised")) {
                readSection(titles.get(i), bodies[i + 1]);
            }
        }
    }

    private void readSection(String title, String body) {
        Matcher promise = PROMISE.matcher(title);
        String place = promise.matches() ? promise.group(1) : title;
        for (String block : body.split("\n\\s*\n|\n(?=- )")) {
            String text = block.replaceAll("\\s+", " ").trim();
            Matcher constant = CONSTANT.matcher(text);
            if (constant.matches()) {
                readSentences(constant.group(2), constant.group(3));
            } else if (!text.startsWith("Ahead of the calls")) {
                readSentences(place, text.replaceFirst("^`[^`]*\\([^`]*`: ", ""));
            }
        }
    }

    private void readSentences(String place, String text) {
        for (String sentence : text.split("(?<=\\.) (?=[A-Z\"])")) {
            // The words ahead of a paragraph, the orchestra in short, and how a number is found: no call tells them.
            boolean isNoCase = sentence.isEmpty() || sentence.matches("\\w+\\.")
                || sentence.startsWith("An orchestra whose") || sentence.startsWith("It is found");
            if (!isNoCase) {
                tests.computeIfAbsent(place, key -> new LinkedHashMap<>()).put(sentence, 0);
            }
        }
    }

    void countTest(Check check, String place, String sentence) {
        Map<String, Integer> known = tests.getOrDefault(place, new LinkedHashMap<>());
        check.due(place + " says: " + sentence, true, known.containsKey(sentence));
        known.computeIfPresent(sentence, (key, count) -> count + 1);
    }

    void dueOneTestForEach(Check check) {
        for (Map.Entry<String, Map<String, Integer>> place : tests.entrySet()) {
            for (Map.Entry<String, Integer> sentence : place.getValue().entrySet()) {
                check.due("tests of " + place.getKey() + ": " + sentence.getKey(), 1, sentence.getValue());
            }
        }
    }
}
