import java.io.IOException;
import java.nio.file.Files;
import java.nio.file.Path;
import java.util.Arrays;
import java.util.Map;
import java.util.TreeMap;

/** The document's own words: a test names those it is about, and in the end none may have been left out. */
final class Sentence {
    private static final Path DOCUMENT = Path.of("../shared/DOC.md");
    private static final Map<String, String> TEXTS = texts();
    private static final Map<String, boolean[]> NAMED = new TreeMap<>();

    private Sentence() {
    }

    /** The checks from here on are about these words, which stand once in that section: "What it is", "Terms", "Promise 1" .. */
    static void of(String section, String words) {
        Check.about(section + ", \"" + words + "\"");
        String text = TEXTS.getOrDefault(section, "");
        int at = text.indexOf(words);
        Check.due("the words stand in the document", at >= 0, true);
        Check.due("the words stand there twice", at >= 0 && text.indexOf(words, at + 1) >= 0, false);
        if (at >= 0) {
            boolean[] named = NAMED.computeIfAbsent(section, s -> new boolean[text.length()]);
            Arrays.fill(named, at, at + words.length(), true);
        }
    }

    /** Every word of these sections belongs to some test. */
    static void dueAllNamed() {
        Check.about("The document");
        for (Map.Entry<String, String> section : TEXTS.entrySet()) {
            String left = notNamed(section.getValue(), NAMED.get(section.getKey()));
            Check.due("words without a test in " + section.getKey() + " (" + left + ")", left.length(), 0);
        }
    }

    /** The section "The public face". */
    static String face() {
        String text = document();
        return text.substring(text.indexOf("## The public face"), text.indexOf("## Terms"));
    }

    private static String notNamed(String text, boolean[] named) {
        StringBuilder left = new StringBuilder();
        for (int i = 0; i < text.length(); i++) {
            left.append(named != null && named[i] ? '_' : text.charAt(i));
        }
        return left.toString().replaceAll("[_,;:.() ]+", " ").trim();
    }

    private static Map<String, String> texts() {
        Map<String, String> texts = new TreeMap<>();
        for (String section : document().split("\n## ")) {
            String title = section.lines().findFirst().orElse("").split(":")[0];
            if (title.equals("What it is") || title.equals("Terms") || title.startsWith("Promise")) {
                texts.put(title, wordsOf(section));
            }
        }
        return texts;
    }

    /** Without the title, the signature and the marks of code. */
    private static String wordsOf(String section) {
        String body = section.substring(section.indexOf('\n') + 1).replaceAll("```[a-z]*", " ");
        return body.strip().replaceFirst("^`[^`]*`: ", "").replace("`", "").replaceAll("\\s+", " ").strip();
    }

    private static String document() {
        try {
            return Files.readString(DOCUMENT);
        } catch (IOException e) {
            throw new IllegalStateException("no document at " + DOCUMENT.toAbsolutePath(), e);
        }
    }
}
