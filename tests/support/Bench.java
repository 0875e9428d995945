/** What the tests share: feeding texts, comparing answers, ending with exit code 1 if one was wrong. */
final class Bench {
    private static int answers = 0;
    private static int wrong = 0;
    /** Said ahead of each wrong answer. */
    private static String test = "";

    private Bench() {
    }

    static void begin(String named) {
        test = named;
    }

    static int answers() {
        return answers;
    }

    static void due(String what, int got, int want) {
        answers++;
        if (got != want) {
            wrong++;
            System.out.println(test + what + " answered " + got + ", due is " + want);
        }
    }

    /** Feeds a text that may have any length: blanks fill the last feed, and are trimmed off. */
    static void feed(CallCourt court, String text) {
        int before = court.told(4);
        for (int i = 0; i < text.length(); i += 20) {
            court.feed(four(text, i), four(text, i + 4), four(text, i + 8), four(text, i + 12), four(text, i + 16));
        }
        court.trim(before + text.length());
    }

    private static int four(String text, int from) {
        int number = 0;
        for (int i = from; i < from + 4; i++) {
            number = number << 8 | (i < text.length() ? text.charAt(i) & 255 : 32);
        }
        return number;
    }

    static int compile(CallCourt court, String text) {
        feed(court, text);
        return court.compile();
    }

    /** A new court with the types of a text that has no fault. */
    static CallCourt court(String text) {
        CallCourt court = new CallCourt();
        int answer = compile(court, text);
        if (answer < 0) {
            wrong++;
            System.out.println(test + "FAULT " + court.fault() + " at " + (-20 - answer) + " in: " + text);
        }
        return court;
    }

    static void end() {
        System.out.println(wrong == 0 ? answers + " answers are as due" : wrong + " answers are not as due");
        if (wrong != 0 || answers == 0) {
            System.exit(1);
        }
    }
}
