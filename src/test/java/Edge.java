import java.io.IOException;
import java.nio.file.Files;
import java.nio.file.Path;
import java.util.ArrayList;
import java.util.Arrays;
import java.util.LinkedHashMap;
import java.util.List;
import java.util.Map;

/** Answers by the sentence of the document that they are compared with; and that no sentence is left out. */
final class Edge {
    private static final Path DOCUMENT = Path.of("../shared/DOC.md");
    private static final int PROMISES = 36;
    private static final int TERMS = 4;

    private final Check check = new Check("EdgeTest");
    private final Map<String, String> sections = new LinkedHashMap<>();
    private final Map<String, List<String>> quotes = new LinkedHashMap<>();
    private String at = "";

    Edge() throws IOException {
        if (Files.exists(DOCUMENT)) {
            split(Files.readString(DOCUMENT));
        } else {
            System.out.println("EdgeTest: there is no " + DOCUMENT + ", quotes are not looked up");
        }
    }

    /** The answers that follow are compared with this sentence, or part of one, of that section. */
    void says(String section, String sentence) {
        at = section + ", \"" + sentence + "\": ";
        quotes.computeIfAbsent(section, name -> new ArrayList<>()).add(sentence);
        if (!sections.isEmpty()) {
            check.due(at + "is in the document", sections.getOrDefault(section, "").contains(sentence), true);
        }
    }

    void due(String call, long got, long want) {
        check.due(at + call, got, want);
    }

    void due(String call, boolean got, boolean want) {
        check.due(at + call, got, want);
    }

    /** Nothing of the promises and of the terms may be without a test that quotes it. */
    void finish() {
        at = "";
        for (Map.Entry<String, String> section : sections.entrySet()) {
            String left = unquoted(section.getValue(), quotes.getOrDefault(section.getKey(), List.of()));
            check.due(section.getKey() + " is tested, all but: " + left, left.isEmpty(), true);
        }
        check.finish();
    }

    private static String unquoted(String text, List<String> quoted) {
        boolean[] covered = new boolean[text.length()];
        for (String quote : quoted) {
            for (int from = text.indexOf(quote); from >= 0; from = text.indexOf(quote, from + 1)) {
                Arrays.fill(covered, from, from + quote.length(), true);
            }
        }
        StringBuilder left = new StringBuilder();
        for (int k = 0; k < covered.length; k++) {
            left.append(covered[k] ? ' ' : text.charAt(k));
        }
        return left.toString().replaceAll("\\s+", " ").trim();
    }

    private void split(String document) {
        String text = document.replace("```text", " ").replace("```", " ");
        for (int n = 1; n <= PROMISES; n++) {
            String body = between(text, "\n## Promise " + n + ": ", "\n## ");
            sections.put("Promise " + n, plain(body.substring(body.indexOf("`: ") + 3)));
        }
        String terms = between(text, "\n## Terms", "\nThe constants:") + "\n" + (TERMS + 1) + ". ";
        for (int n = 1; n <= TERMS; n++) {
            sections.put("Terms " + n, plain(between(terms, "\n" + n + ". ", "\n" + (n + 1) + ". ")));
        }
        sections.put("What it is", plain("An object" + between(text, "\nAn object", "\n## ")));
        sections.put("The constants", plain(between(text, "\nThe constants:", "\n## ")));
    }

    private static String between(String text, String from, String to) {
        int start = text.indexOf(from) + from.length();
        return text.substring(start, text.indexOf(to, start));
    }

    private static String plain(String text) {
        return text.replaceAll("\\s+", " ").trim();
    }
}
