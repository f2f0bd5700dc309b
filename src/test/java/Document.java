import java.io.IOException;
import java.nio.charset.StandardCharsets;
import java.nio.file.Files;
import java.nio.file.Paths;
import java.util.ArrayList;
import java.util.List;
import java.util.Map;
import java.util.TreeMap;

/** ../shared/DOC.md by its heads: tests name its words, and what no test has named is found. */
final class Document {
    /** A promise's part bears its number, the others bear these. */
    static final int TERMS = 0, WHAT_IT_IS = -1, NOT_PROMISED = -2;
    private static final int OTHER = -3, LAST_PROMISE = 39;

    private static final Map<Integer, String> PARTS = new TreeMap<>();
    private static final Map<Integer, boolean[]> NAMED = new TreeMap<>();

    private Document() {
    }

    static void load(String place) throws IOException {
        Map<Integer, StringBuilder> parts = new TreeMap<>();
        int part = OTHER;
        for (String line : Files.readAllLines(Paths.get(place), StandardCharsets.ISO_8859_1)) {
            if (line.startsWith("## ")) {
                part = partOf(line);
            } else if (!isFrame(line)) {
                parts.computeIfAbsent(part, none -> new StringBuilder()).append(' ').append(withoutFace(line));
            }
        }
        for (Map.Entry<Integer, StringBuilder> one : parts.entrySet()) {
            String text = one.getValue().toString().replaceAll("\\s+", " ").trim();
            PARTS.put(one.getKey(), text);
            NAMED.put(one.getKey(), new boolean[text.length()]);
        }
    }

    private static int partOf(String head) {
        if (head.startsWith("## Promise ")) {
            return Integer.parseInt(head.substring("## Promise ".length(), head.indexOf(':')));
        }
        switch (head) {
            case "## Terms": return TERMS;
            case "## What it is": return WHAT_IT_IS;
            case "## Not promised": return NOT_PROMISED;
            default: return OTHER;
        }
    }

    private static boolean isFrame(String line) {
        return line.startsWith("```") || line.startsWith("Ahead of the calls");
    }

    // The methods as they stand ahead of what is promised of them are a matter of FaceTests.
    private static String withoutFace(String line) {
        return line.replaceFirst("^`[^`]*`: ", "");
    }

    /** Whether these words stand in that part; all their places there are named from now on. */
    static boolean names(int part, String words) {
        String text = PARTS.getOrDefault(part, "");
        int place = text.indexOf(words);
        boolean isThere = place >= 0 && !words.isEmpty();
        while (isThere && place >= 0) {
            for (int n = place; n < place + words.length(); n++) {
                NAMED.get(part)[n] = true;
            }
            place = text.indexOf(words, place + words.length());
        }
        return isThere;
    }

    /** What no test has named of the terms and of the promises, each stretch behind its part's number. */
    static List<String> unnamed() {
        List<String> all = new ArrayList<>();
        for (int part = TERMS; part <= LAST_PROMISE; part++) {
            if (PARTS.containsKey(part)) {
                addUnnamed(all, part);
            } else {
                all.add(part + " is not in the document");
            }
        }
        return all;
    }

    private static void addUnnamed(List<String> all, int part) {
        String text = PARTS.get(part);
        boolean[] named = NAMED.get(part);
        int start = 0;
        while (start < text.length()) {
            int end = start;
            while (end < text.length() && !named[end]) {
                end++;
            }
            String stretch = text.substring(start, end);
            if (stretch.matches(".*[A-Za-z0-9].*")) {
                all.add(part + ": " + stretch.trim());
            }
            start = end + 1;
        }
    }
}
