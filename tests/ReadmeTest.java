import java.io.IOException;
import java.lang.reflect.Method;
import java.lang.reflect.Modifier;
import java.net.URL;
import java.net.URLClassLoader;
import java.nio.file.Files;
import java.nio.file.Path;
import java.util.List;
import java.util.regex.Pattern;
import javax.tools.JavaCompiler;
import javax.tools.ToolProvider;

/** The examples of README.md compile as they stand there and have the answers that it names, and no call lacks one. */
public final class ReadmeTest {
    public static void main(String[] args) throws IOException, ReflectiveOperationException {
        Readme readme = new Readme();
        for (String line : readme.unclear()) {
            Bench.due(line, 1, 0);
        }
        answers(readme);
        everyCall(readme.examples());
        Bench.end();
    }

    private static void answers(Readme readme) throws IOException, ReflectiveOperationException {
        Path folder = Files.createTempDirectory("readme");
        try {
            boolean compiles = compile(folder, readme.program());
            Bench.due("README.md: its examples compile", compiles ? 1 : 0, 1);
            int[] answers = compiles ? run(folder) : new int[0];
            for (int i = 0; i < answers.length; i++) {
                Readme.Example example = readme.examples().get(i);
                Bench.due("README.md, line " + example.line() + ": " + example.call(), answers[i], example.answer());
            }
        } finally {
            remove(folder);
        }
    }

    private static boolean compile(Path folder, String program) throws IOException {
        Path source = Files.writeString(folder.resolve(Readme.PROGRAM + ".java"), program);
        JavaCompiler compiler = ToolProvider.getSystemJavaCompiler();
        int code = compiler.run(null, System.out, System.out, "-d", folder.toString(), "-classpath",
            System.getProperty("java.class.path"), source.toString());
        return code == 0;
    }

    private static int[] run(Path folder) throws IOException, ReflectiveOperationException {
        try (URLClassLoader loader = new URLClassLoader(new URL[] {folder.toUri().toURL()})) {
            return (int[]) loader.loadClass(Readme.PROGRAM).getMethod("run").invoke(null);
        }
    }

    private static void remove(Path folder) throws IOException {
        try (var files = Files.list(folder)) {
            for (Path file : files.toList()) {
                Files.delete(file);
            }
        }
        Files.delete(folder);
    }

    private static void everyCall(List<Readme.Example> examples) {
        for (Method method : CallCourt.class.getDeclaredMethods()) {
            if (Modifier.isPublic(method.getModifiers())) {
                Pattern call = Pattern.compile("\\bcourt\\." + method.getName() + "\\(");
                long count = examples.stream().filter(e -> call.matcher(e.call()).find()).count();
                Bench.due("README.md has an example of " + method.getName() + "()", count > 0 ? 1 : 0, 1);
            }
        }
    }
}
