import java.io.IOException;
import java.lang.reflect.Method;
import java.util.List;

/** Each sentence of the document that names a boundary case has a test of its own, and no sentence has none. */
public final class BoundariesTest {
    public static void main(String[] args) throws IOException, IllegalAccessException {
        List<Method> tests = Boundaries.testsOf(BoundsOfTheTape.class, BoundsOfTokens.class, BoundsOfFaults.class,
            BoundsOfTheLastBrace.class, BoundsOfTypes.class, BoundsOfOverrides.class, BoundsOfLookup.class, BoundsOfRules.class);
        for (Method test : tests) {
            Boundaries.run(test);
        }
        Bench.begin("");
        if (Document.isThere()) {
            sentences(new Document(), tests);
        }
        System.out.println(tests.size() + " sentences have a test");
        Bench.end();
    }

    private static void sentences(Document document, List<Method> tests) {
        for (Method test : tests) {
            Sentence sentence = test.getAnnotation(Sentence.class);
            boolean stands = document.name(sentence.promise(), sentence.says());
            Bench.due(test.getName() + ": its words stand once in the document", stands ? 1 : 0, 1);
        }
        for (String rest : document.unnamed()) {
            Bench.due("words that no test is named for, " + rest, 0, 1);
        }
    }
}
