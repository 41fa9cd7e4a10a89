import java.io.IOException;
import java.nio.file.Files;
import java.nio.file.Path;
import java.util.ArrayList;
import java.util.Arrays;
import java.util.LinkedHashMap;
import java.util.List;
import java.util.Map;

/** The document by its sections, and which of its words a test has quoted. */
final class Doc {
    private final Map<String, String> sections = new LinkedHashMap<>();
    private final Map<String, boolean[]> quoted = new LinkedHashMap<>();

    Doc(Path file) throws IOException {
        for (String part : Files.readString(file).split("(?m)^## ")) {
            int end = part.indexOf('\n');
            String name = part.substring(0, end).replaceAll(":.*", "");
            String words = plain(part.substring(end));
            sections.put(name, words);
            quoted.put(name, new boolean[words.length()]);
        }
    }

    /** Without what is no sentence: a promise's signature, rulers, the form of the page. */
    private static String plain(String body) {
        return body.replaceAll("(?m)^`[^`]*`: ", "")
            .replaceAll("(?m)^Ahead of the calls .*$", "")
            .replaceAll("```\\w*|`", "")
            .replaceAll("={8} \\d", "")
            .replaceAll("\\s+", " ");
    }

    /** False: the section has no such words. */
    boolean quote(String section, String words) {
        String text = sections.getOrDefault(section, "");
        int at = text.indexOf(words);
        if (at >= 0) {
            Arrays.fill(quoted.get(section), at, at + words.length(), true);
        }
        return at >= 0;
    }

    /** What of the terms and the promises no test has quoted. */
    List<String> unquoted() {
        List<String> list = new ArrayList<>();
        sections.forEach((name, text) -> {
            if (name.equals("Terms") || name.startsWith("Promise ")) {
                String left = leftOf(text, quoted.get(name));
                if (left.matches(".*\\w.*")) {
                    list.add(name + ": " + left);
                }
            }
        });
        return list;
    }

    private static String leftOf(String text, boolean[] was) {
        StringBuilder left = new StringBuilder();
        for (int i = 0; i < was.length; i++) {
            left.append(was[i] ? ' ' : text.charAt(i));
        }
        return left.toString().replaceAll("\\s+", " ").trim();
    }
}
