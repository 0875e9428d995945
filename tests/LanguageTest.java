import java.io.IOException;
import java.lang.reflect.Constructor;
import java.lang.reflect.Field;
import java.lang.reflect.Method;
import java.lang.reflect.Modifier;
import java.nio.file.Files;
import java.nio.file.Path;
import java.util.ArrayList;
import java.util.List;
import java.util.Set;
import java.util.TreeSet;
import java.util.regex.Matcher;
import java.util.regex.Pattern;

/** The face of the class as the document tells it, and the rules of LANGUAGE.md that a reading of the source can tell. */
public final class LanguageTest {
    private static final Path SOURCE = Path.of("src/main/java/CallCourt.java");
    private static final Set<String> METHODS = Set.of("feed(int,int,int,int,int)", "trim(int)", "compile()", "fault()",
        "type(int,int)", "above(int,int)", "under(int,int)", "member(int,int)", "seen(int,int,int)", "erased(int,int)",
        "overrides(int,int)", "bridge(int,int,int)", "same(int,int,boolean)", "lookup(int,int)", "specific(int,int,int)",
        "may(int,int,int,int)", "rule(int,int,int,int,int)", "hops()", "conflicts(int)", "tally(int,int)", "told(int)");

    public static void main(String[] args) throws IOException {
        face();
        inside();
        source(Files.readString(SOURCE));
        if (Document.isThere()) {
            faceAsWritten(Document.face(), Files.readAllLines(SOURCE));
        }
        Bench.end();
    }

    private static void holds(String what, boolean so) {
        Bench.due(what, so ? 1 : 0, 1);
    }

    private static void face() {
        Class<?> court = CallCourt.class;
        holds("public and final", Modifier.isPublic(court.getModifiers()) && Modifier.isFinal(court.getModifiers()));
        holds("no class above", court.getSuperclass() == Object.class && court.getInterfaces().length == 0);
        Constructor<?>[] constructors = court.getDeclaredConstructors();
        holds("one public constructor", constructors.length == 1 && Modifier.isPublic(constructors[0].getModifiers())
            && constructors[0].getParameterCount() == 0);
        Set<String> open = new TreeSet<>();
        Set<String> names = new TreeSet<>();
        for (Method method : court.getDeclaredMethods()) {
            if (!Modifier.isPrivate(method.getModifiers())) {
                holds(method + " answers an int", method.getReturnType() == int.class);
                StringBuilder told = new StringBuilder(method.getName()).append('(');
                for (Class<?> kind : method.getParameterTypes()) {
                    told.append(told.charAt(told.length() - 1) == '(' ? "" : ",").append(kind);
                }
                open.add(told.append(')').toString());
                names.add(method.getName());
            }
        }
        holds("the methods of the document and no others: " + open, open.equals(METHODS));
        for (Field field : court.getDeclaredFields()) {
            boolean told = Set.of("UNKNOWN", "OUTSIDE", "NONE", "FULL").contains(field.getName());
            holds(field + " is public only if the document tells it", told == Modifier.isPublic(field.getModifiers())
                && told != Modifier.isPrivate(field.getModifiers()));
        }
        for (Method method : court.getDeclaredMethods()) {
            holds(method + " has a name of its own", !Modifier.isPrivate(method.getModifiers()) || !names.contains(method.getName()));
        }
        Bench.due("UNKNOWN", CallCourt.UNKNOWN, -11);
        Bench.due("OUTSIDE", CallCourt.OUTSIDE, -12);
        Bench.due("NONE", CallCourt.NONE, -13);
        Bench.due("FULL", CallCourt.FULL, -14);
    }

    /** The document's lines stand in the source in their order, methods with { for ; and no other line is public. */
    private static void faceAsWritten(List<String> face, List<String> source) {
        List<String> due = new ArrayList<>();
        for (String line : face) {
            if (line.contains("public ")) {
                due.add(line.replace(");", ") {"));
            }
        }
        List<String> open = new ArrayList<>(source);
        open.removeIf(line -> !line.matches("\\s*public .*"));
        holds("the document's face has its 24 lines: " + due.size(), due.size() == 24);
        holds("the public lines of the source are the document's: " + open, open.equals(due));
    }

    private static void inside() {
        Class<?>[] classes = CallCourt.class.getDeclaredClasses();
        holds("twelve classes at most", classes.length + 1 <= 12);
        for (Class<?> one : classes) {
            holds(one + " is static, and not public", Modifier.isStatic(one.getModifiers()) && !Modifier.isPublic(one.getModifiers()));
            int fields = 0;
            for (Field field : one.getDeclaredFields()) {
                fields += Modifier.isStatic(field.getModifiers()) ? 0 : 1;
            }
            holds(one + " has twenty fields at most", fields <= 20);
            for (Method method : one.getDeclaredMethods()) {
                holds(method + " takes seven parameters at most", method.getParameterCount() <= 7);
                holds(method + " bears no name of the face", METHODS.stream().noneMatch(m -> m.startsWith(method.getName() + "(")));
            }
        }
    }

    private static void source(String text) {
        String code = text.replaceAll("(?s)/\\*.*?\\*/", "").replaceAll("//.*", "").replaceAll("'.'", "' '");
        for (String word : new String[] {"throw", "throws", "try", "catch", "synchronized", "assert", "import", "package",
            "System", "Thread", "String", "Object", "hashCode", "->", "::", "\"", "\\[\\]\\["}) {
            String wanted = Character.isLetter(word.charAt(0)) ? "\\b" + word + "\\b" : word;
            holds("the source has no " + word, !Pattern.compile(wanted).matcher(code).find());
        }
        holds("no loop without a counter", !Pattern.compile("\\b(while|do)\\b").matcher(code).find());
        Matcher statics = Pattern.compile("\\bstatic (?!final )(?!int \\w+\\(|boolean \\w+\\()").matcher(code);
        holds("static fields are final", !statics.find());
        int start = 0;
        String[] lines = code.split("\n", -1);
        for (int i = 0; i < lines.length; i++) {
            if (lines[i].matches(" {4,8}\\S.*\\{")) {
                start = i;
            } else if (lines[i].matches(" {4,8}\\}")) {
                holds("a method of sixty lines at most ends at line " + (i + 1), i - start <= 60);
            }
        }
    }
}
