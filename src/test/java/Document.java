import java.io.IOException;
import java.io.UncheckedIOException;
import java.nio.file.Files;
import java.nio.file.Path;
import java.util.ArrayList;
import java.util.Arrays;
import java.util.List;
import java.util.Map;
import java.util.TreeMap;
import java.util.regex.Matcher;
import java.util.regex.Pattern;

/** The sentences of ../shared/DOC.md, promise by promise, and which of them a test has named. */
final class Document {
    /** The number under which "What it is" and "Terms" stand. */
    static final int TERMS = 0;

    private static final Path PATH = Path.of("../shared/DOC.md");
    private static final Pattern PROMISE = Pattern.compile("## Promise (\\d+):.*");

    private final Map<Integer, String> texts = new TreeMap<>();
    private final Map<Integer, boolean[]> named = new TreeMap<>();

    Document() {
        int section = -1;
        for (String line : lines()) {
            if (line.startsWith("## ")) {
                section = sectionOf(line);
            } else if (section >= TERMS && isText(line)) {
                texts.merge(section, textOf(line), (text, more) -> text + " " + more);
            }
        }
        texts.forEach((number, text) -> named.put(number, new boolean[text.length()]));
    }

    private static List<String> lines() {
        try {
            return Files.readAllLines(PATH);
        } catch (IOException e) {
            throw new UncheckedIOException(e);
        }
    }

    private static int sectionOf(String heading) {
        Matcher promise = PROMISE.matcher(heading);
        if (promise.matches()) {
            return Integer.parseInt(promise.group(1));
        }
        return heading.equals("## What it is") || heading.equals("## Terms") ? TERMS : -1;
    }

    private static boolean isText(String line) {
        return !line.isBlank() && !line.startsWith("```") && !line.startsWith("Ahead of the calls ");
    }

    // what goes: a call's own line, the numbers of the parts, and what the whole is about in a few words
    private static String textOf(String line) {
        return line.strip().replaceFirst("^`[^`]*`: ", "").replaceFirst("^A board of columns.*?={8}", "")
                .replaceAll("(={8})? ?\\b[1-4] (?=THE BOARD|WORTH of|POSITIONS:|SHEETS 0)", "").strip();
    }

    /** Whether the promise has the sentence; it is named then. */
    boolean name(int promise, String sentence) {
        String text = texts.getOrDefault(promise, "");
        int from = text.indexOf(sentence);
        boolean found = from >= 0;
        while (from >= 0) {
            Arrays.fill(named.get(promise), from, from + sentence.length(), true);
            from = text.indexOf(sentence, from + 1);
        }
        return found;
    }

    /** The parts of a promise that no test has named. */
    List<String> unnamed(int promise) {
        String text = texts.getOrDefault(promise, "the whole promise");
        boolean[] is = named.getOrDefault(promise, new boolean[text.length()]);
        List<String> parts = new ArrayList<>();
        int from = 0;
        for (int i = 0; i <= text.length(); i++) {
            if (i == text.length() || is[i]) {
                String part = text.substring(from, i).strip();
                if (!part.isEmpty()) {
                    parts.add(part);
                }
                from = i + 1;
            }
        }
        return parts;
    }
}
