import java.io.IOException;
import java.nio.file.Files;
import java.nio.file.Path;
import java.util.ArrayList;
import java.util.List;
import java.util.regex.Matcher;
import java.util.regex.Pattern;

/** ../shared/DOC.md, and which of its words have a test that is named for them. */
final class Document {
    private static final Path PLACE = Path.of("../shared/DOC.md");
    static final int PROMISES = 22;

    /** Part 0 is what stands ahead of promise 1; part n is promise n. */
    private final String[] parts = new String[PROMISES + 1];
    private final boolean[][] named = new boolean[PROMISES + 1][];

    static boolean isThere() {
        return Files.isReadable(PLACE);
    }

    Document() throws IOException {
        String text = Files.readString(PLACE).replaceAll("```\\w*", " ").replaceAll("\\s+", " ");
        int from = 0;
        for (int part = 0; part <= PROMISES; part++) {
            int end = text.indexOf(part < PROMISES ? "## Promise " + (part + 1) + ":" : "## Not promised");
            parts[part] = text.substring(from, end);
            named[part] = new boolean[parts[part].length()];
            from = end;
        }
        pass(0, "^.*## Terms ");
        pass(0, "==== 1 TEXTS\\.|==== [23]|Ahead of the calls.*$");
        for (int part = 1; part <= PROMISES; part++) {
            pass(part, "^## Promise \\d+: .*? `[^`]*`: ");
        }
    }

    /** The lines of the public face, from its class line to its last }. */
    static List<String> face() throws IOException {
        String text = Files.readString(PLACE);
        int start = text.indexOf("```java\n", text.indexOf("## The public face")) + "```java\n".length();
        return List.of(text.substring(start, text.indexOf("```", start)).split("\n"));
    }

    /** What is no sentence needs no test. */
    private void pass(int part, String pattern) {
        Matcher matcher = Pattern.compile(pattern).matcher(parts[part]);
        while (matcher.find()) {
            mark(part, matcher.start(), matcher.end());
        }
    }

    private void mark(int part, int start, int end) {
        for (int i = start; i < end; i++) {
            named[part][i] = true;
        }
    }

    /** Whether the words stand just once in the promise, or, if it has them not, ahead of promise 1. */
    boolean name(int promise, String words) {
        int part = parts[promise].contains(words) ? promise : 0;
        int start = parts[part].indexOf(words);
        if (start < 0 || parts[part].indexOf(words, start + 1) >= 0) {
            return false;
        }
        mark(part, start, start + words.length());
        return true;
    }

    /** The stretches with letters or digits that no test is named for. */
    List<String> unnamed() {
        List<String> rest = new ArrayList<>();
        for (int part = 0; part <= PROMISES; part++) {
            int start = 0;
            for (int i = 0; i <= parts[part].length(); i++) {
                if (i == parts[part].length() || named[part][i]) {
                    String stretch = parts[part].substring(start, i);
                    if (stretch.matches(".*[A-Za-z0-9].*")) {
                        rest.add("part " + part + ": " + stretch);
                    }
                    start = i + 1;
                }
            }
        }
        return rest;
    }
}
