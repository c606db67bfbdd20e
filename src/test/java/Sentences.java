import java.io.IOException;
import java.nio.file.Files;
import java.nio.file.Path;
import java.util.ArrayList;
import java.util.LinkedHashMap;
import java.util.List;
import java.util.Map;
import java.util.regex.Matcher;
import java.util.regex.Pattern;

/** The document's sentences, so that each test names the one it is for, and none is left without a test. */
final class Sentences {
    private final Map<String, String> told = new LinkedHashMap<>();
    private final Map<String, StringBuilder> unnamed = new LinkedHashMap<>();

    Sentences(Path document) throws IOException {
        Matcher m = Pattern.compile("(?ms)^## (Terms|Promise \\d+)\\b[^\n]*\n(.*?)(?=^## |\\z)")
                .matcher(Files.readString(document));
        while (m.find()) {
            String words = m.group(2).replaceAll("(?m)^==== \\d\\. [A-Z]+$", "").replaceAll("```(text)?|====", "")
                    .replaceAll("`[^`]*`: ", "").replaceAll("\\s+", " ").trim();
            told.put(m.group(1), words);
            unnamed.put(m.group(1), new StringBuilder(words));
        }
    }

    int sections() {
        return told.size();
    }

    /** Whether the section has these words; they count as named then. */
    boolean name(String section, String words) {
        int at = told.getOrDefault(section, "").indexOf(words);
        if (at < 0) {
            return false;
        }
        unnamed.get(section).replace(at, at + words.length(), " ".repeat(words.length()));
        return true;
    }

    List<String> left() {
        List<String> left = new ArrayList<>();
        for (Map.Entry<String, StringBuilder> section : unnamed.entrySet()) {
            String words = section.getValue().toString().replaceAll("\\s+", " ").trim();
            if (!words.isEmpty()) {
                left.add(section.getKey() + " " + words);
            }
        }
        return left;
    }
}
