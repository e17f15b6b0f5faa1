import java.io.IOException;
import java.nio.file.Files;
import java.nio.file.Path;
import java.util.ArrayList;
import java.util.LinkedHashMap;
import java.util.List;
import java.util.Map;

/**
 * Ties each check to the sentence of the document that it is for, and in the end tells which sentence
 * has no check of its own.
 */
final class Edge {
    static final int MIN = Integer.MIN_VALUE, MAX = Integer.MAX_VALUE;

    private static final Path DOCUMENT = Path.of("../shared/DOC.md");
    private static final Map<String, List<String>> QUOTED = new LinkedHashMap<>();
    private static String sentence = "";

    private Edge() {
    }

    /** All checks that follow are for these words of a promise (0: of the terms). */
    static void of(int promise, String words) {
        String where = promise == 0 ? "Terms" : "Promise " + promise;
        QUOTED.computeIfAbsent(where, key -> new ArrayList<>()).add(words);
        sentence = where + " \"" + words + "\": ";
    }

    static void is(String call, long got, long due) {
        Due.is(sentence + call, got, due);
    }

    /** Numbers just outside of a range, and those with which a sum or a product could wrap around. */
    static int[] outside(int least, int most) {
        return new int[] {least - 1, most + 1, MIN, MIN + 1, MAX, MAX - 1, Due.NONE - 1, -65536, 65536 + most};
    }

    /** Every sentence is quoted by a check, and every quote still stands in the document. */
    static void checkDocument() throws IOException {
        if (!Files.isReadable(DOCUMENT)) {
            System.out.println(DOCUMENT + " is not there: its sentences are not looked at");
            return;
        }
        Map<String, List<String>> sentences = sentencesOfDocument();
        Due.is("sections of the document that are known", sentences.size(), 36);
        for (String where : sentences.keySet()) {
            List<String> quotes = QUOTED.getOrDefault(where, List.of());
            for (String told : sentences.get(where)) {
                boolean tested = quotes.stream().anyMatch(quote -> stands(quote, told));
                Due.is(where + " has no test of \"" + told + "\": tests", tested ? 1 : 0, 1);
            }
            for (String quote : quotes) {
                boolean there = sentences.get(where).stream().anyMatch(told -> stands(quote, told));
                Due.is(where + " does not say \"" + quote + "\": says", there ? 1 : 0, 1);
            }
        }
    }

    /** A single word such as NULL stands in many sentences, so it has to be the whole of one. */
    private static boolean stands(String quote, String told) {
        return quote.contains(" ") ? told.contains(quote) : told.equals(quote);
    }

    private static Map<String, List<String>> sentencesOfDocument() throws IOException {
        Map<String, List<String>> sentences = new LinkedHashMap<>();
        for (String section : Files.readString(DOCUMENT).split("(?m)^## ")) {
            String where = section.split("[:\n]", 2)[0].strip();
            if (!where.equals("Terms") && !where.startsWith("Promise ")) continue;
            sentences.put(where, split(section.substring(section.indexOf('\n'))));
        }
        return sentences;
    }

    /** At full stops and semicolons, but not at the ".." of a range. */
    private static List<String> split(String body) {
        List<String> pieces = new ArrayList<>();
        for (String line : body.replace("```text", "").replace("```", "").split("\n")) {
            if (line.startsWith("Ahead of the calls ")) continue;
            for (String piece : line.split("(?<!\\.)[.;](\\s+|\\)|$)")) {
                if (!piece.isBlank()) pieces.add(piece.strip());
            }
        }
        return pieces;
    }
}
