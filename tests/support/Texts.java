/** Texts that a compile takes or refuses, and texts that are full. */
final class Texts {
    private Texts() {
    }

    static void right(String text, int types) {
        CallCourt x = new CallCourt();
        Bench.due("compile of " + text, Bench.compile(x, text), types);
        Bench.due("fault of " + text, x.fault(), 0);
        Bench.due("types of " + text, x.told(0), types);
    }

    /** The fault stands where the text has its first '@', which is not part of it; at its end without one. */
    static void wrong(int fault, String marked) {
        int place = marked.indexOf('@');
        String text = place < 0 ? marked : marked.substring(0, place) + marked.substring(place + 1);
        wrongAt(fault, place < 0 ? text.length() : place, text);
    }

    static void wrongAt(int fault, int place, String text) {
        CallCourt x = new CallCourt();
        Bench.due("compile of " + text, Bench.compile(x, text), -20 - place);
        Bench.due("fault of " + text, x.fault(), fault);
        Bench.due("types of " + text, x.told(0), 0);
    }

    static String types(int count) {
        StringBuilder text = new StringBuilder();
        for (int i = 0; i < count; i++) {
            text.append("class T").append(i).append("{}");
        }
        return text.toString();
    }

    /** Classes A0 to A23, each the class above the next one, and what they have between { and }. */
    static String ladder(String top, String others) {
        StringBuilder text = new StringBuilder("class A0{").append(top).append('}');
        for (int i = 1; i < 24; i++) {
            text.append("class A").append(i).append(":A").append(i - 1).append('{').append(others).append('}');
        }
        return text.toString();
    }

    /** A ladder of which each class narrows the result of m, so that it has a BRIDGE for each class above it. */
    static String narrowing() {
        StringBuilder text = new StringBuilder("class A0{open A0 m();}");
        for (int i = 1; i < 24; i++) {
            text.append("class A").append(i).append(":A").append(i - 1).append("{open A").append(i).append(" m();}");
        }
        return text.toString();
    }

    static String membersOf(int count) {
        StringBuilder text = new StringBuilder();
        for (int i = 0; i < count; i++) {
            text.append("int m").append(i).append("();");
        }
        return text.toString();
    }

    /** Fifteen classes with eight members each, each the class above the next one. */
    static String fullLadder() {
        StringBuilder text = new StringBuilder();
        for (int t = 0; t < 15; t++) {
            text.append("class T").append(t).append(t == 0 ? "" : ":T" + (t - 1));
            text.append('{').append(membersOf(8)).append('}');
        }
        return text.toString();
    }

    static String fullTypes(int count) {
        StringBuilder text = new StringBuilder();
        for (int i = 0; i < count; i++) {
            text.append("class T").append(i).append("{").append(membersOf(8)).append("}");
        }
        return text.toString();
    }
}
