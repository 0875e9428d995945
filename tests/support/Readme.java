import java.io.IOException;
import java.io.UncheckedIOException;
import java.nio.file.Files;
import java.nio.file.Path;
import java.util.ArrayList;
import java.util.List;
import java.util.regex.Matcher;
import java.util.regex.Pattern;

/**
 * The java blocks of README.md as one program, in the order in which they stand: a block that begins with "static"
 * tells methods, every other one statements; an example call there is a line "call;  // answer", or ": why" behind it.
 */
final class Readme {
    static final Path PLACE = Path.of("README.md");
    static final String PROGRAM = "ReadmeExamples";

    private static final Pattern EXAMPLE = Pattern.compile("(\\w.*\\));\\s*// (-?\\d+|[A-Z]+)(?:: .*)?");
    private static final Pattern CALL = Pattern.compile("\\bcourt\\b");
    private static final Pattern NEW_COURT = Pattern.compile("CallCourt court = new CallCourt\\(\\);");
    /** In running text a call may be named, as `rule()`; with arguments it would be an example that nothing runs. */
    private static final Pattern CALL_IN_TEXT = Pattern.compile("`(?:\\w+\\.)?\\w+\\([^)`][^`]*`");

    /** A call, the answer that README.md names for it, and its line there. */
    record Example(int line, String call, int answer) {
    }

    private final List<Example> examples = new ArrayList<>();
    /** What stands there otherwise than a reader of the examples, or this one, could make use of it. */
    private final List<String> unclear = new ArrayList<>();
    private final StringBuilder methods = new StringBuilder();
    private final StringBuilder statements = new StringBuilder();

    Readme() {
        List<String> lines = read();
        String fence = "";
        boolean first = false;
        boolean telling = false;
        for (int i = 0; i < lines.size(); i++) {
            String line = lines.get(i);
            if (line.strip().startsWith("```")) {
                fence = fence.isEmpty() ? readFence(i + 1, line) : "";
                first = true;
            } else if (fence.isEmpty()) {
                readText(i + 1, line);
            } else if (fence.equals("```java")) {
                telling = first ? line.startsWith("static ") : telling;
                first = false;
                if (telling) {
                    methods.append(line).append('\n');
                } else {
                    readStatement(i + 1, line);
                }
            }
        }
    }

    private static List<String> read() {
        try {
            return Files.readAllLines(PLACE);
        } catch (IOException e) {
            throw new UncheckedIOException(e);
        }
    }

    /** A fence written in any other way would hide its examples from the test. */
    private String readFence(int number, String line) {
        if (!line.equals("```java") && !line.equals("```sh")) {
            unclear.add("line " + number + ", a block of another kind than java and sh: " + line);
        }
        return line;
    }

    private void readText(int number, String line) {
        if (CALL_IN_TEXT.matcher(line).find()) {
            unclear.add("line " + number + ", an example call outside of a java block: " + line);
        }
    }

    private void readStatement(int number, String line) {
        Matcher example = EXAMPLE.matcher(line);
        if (example.matches()) {
            statements.append("answers[").append(examples.size()).append("] = ").append(example.group(1)).append(";\n");
            examples.add(new Example(number, example.group(1), answer(example.group(2))));
            return;
        }
        if (CALL.matcher(line).find() && !NEW_COURT.matcher(line).matches()) {
            unclear.add("line " + number + ", an example call without an answer: " + line);
        }
        statements.append(line).append('\n');
    }

    private static int answer(String told) {
        switch (told) {
            case "UNKNOWN": return CallCourt.UNKNOWN;
            case "OUTSIDE": return CallCourt.OUTSIDE;
            case "NONE": return CallCourt.NONE;
            case "FULL": return CallCourt.FULL;
            default: return Integer.parseInt(told);
        }
    }

    List<Example> examples() {
        return examples;
    }

    List<String> unclear() {
        return unclear;
    }

    /** The source of a class whose run() gives the answers in the order of the examples. */
    String program() {
        return "public final class " + PROGRAM + " {\n" + methods + "public static int[] run() {\n"
            + "int[] answers = new int[" + examples.size() + "];\n" + statements + "return answers;\n}\n}\n";
    }
}
