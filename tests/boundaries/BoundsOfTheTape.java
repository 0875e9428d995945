/** The constants, an object's calls, refusals; promises 1 to 5 and 22 as far as they are not the texts' own rules. */
final class BoundsOfTheTape {
    private static final int UNKNOWN = CallCourt.UNKNOWN, OUTSIDE = CallCourt.OUTSIDE;
    private static final int BLANKS = 0x20202020;
    private static final String BRIDGED = "pack p; class A{open A m();} class B:A{open B m(); own none k();} face F{}";

    private BoundsOfTheTape() {
    }

    private static int feedBlanks(CallCourt x) {
        return x.feed(BLANKS, BLANKS, BLANKS, BLANKS, BLANKS);
    }

    private static CallCourt withBlanks(int count) {
        CallCourt x = new CallCourt();
        while (x.told(4) < count) {
            feedBlanks(x);
        }
        x.trim(count);
        return x;
    }

    private static String blanks(int count) {
        return " ".repeat(count);
    }

    /** What a court with BRIDGED says of itself, without a call that could change it. */
    private static String state(CallCourt x) {
        StringBuilder state = new StringBuilder();
        state.append(x.hops()).append(' ').append(x.fault());
        for (int what = 0; what < 5; what++) {
            state.append(' ').append(x.told(what));
        }
        for (int t = 0; t < 3; t++) {
            for (int what = 0; what < 10; what++) {
                state.append(' ').append(x.type(t, what));
            }
            state.append(' ').append(x.above(t, 0)).append(' ').append(x.bridge(t, 0,
                1)).append(' ').append(x.lookup(t, 0));
        }
        for (int m = 0; m < 3; m++) {
            state.append(' ').append(x.member(m, 1)).append(' ').append(x.erased(m,
                2)).append(' ').append(x.overrides(1, m));
        }
        return state.toString();
    }

    // ---- ahead of the promises

    @Sentence(promise = 1, says = "public static final int UNKNOWN = -11, OUTSIDE = -12, NONE = -13, FULL = -14;")
    static void theConstants() throws ReflectiveOperationException {
        String[] names = {"UNKNOWN", "OUTSIDE", "NONE", "FULL"};
        for (int i = 0; i < names.length; i++) {
            Bench.due(names[i], CallCourt.class.getField(names[i]).getInt(null), -11 - i);
        }
    }

    @Sentence(promise = 1, says = "An object is used for at most 512 calls after it has been made; what later calls"
        + " answer is free.")
    static void the512thCallIsAnsweredToo() {
        CallCourt x = new CallCourt();
        for (int call = 1; call <= 508; call += 4) {
            // "class A{open A m();}", then "class A{} class B{}"
            boolean one = call % 8 == 1;
            Bench.due("feed as call " + call, x.feed(0x636C6173, 0x7320417B, one ? 0x6F70656E : 0x7D20636C,
                one ? 0x2041206D : 0x61737320, one ? 0x28293B7D : 0x427B7D20), 20);
            Bench.due("compile as call " + (call + 1), x.compile(), one ? 1 : 2);
            Bench.due("fault as call " + (call + 2), x.fault(), 0);
            Bench.due("told(1) as call " + (call + 3), x.told(1), one ? 1 : 0);
        }
        Bench.due("feed as call 509", x.feed(0x636C6173, 0x7320417B, 0x6F70656E, 0x2041206D, 0x28293B7D), 20);
        Bench.due("compile as call 510", x.compile(), 1);
        Bench.due("hops as call 511", x.hops(), 0);
        Bench.due("rule as call 512", x.rule(0, 0, 0, 0, 0), 0);
    }

    @Sentence(promise = 1, says = "REFUSALS, the first of these that fits: UNKNOWN (-11: there is no such type,"
        + " member), OUTSIDE (-12: a number is not as told), NONE (-13: there is nothing such), FULL (-14).")
    static void theFirstRefusalThatFits() {
        CallCourt x = Bench.court(BRIDGED);
        Bench.due("type: UNKNOWN ahead of OUTSIDE", x.type(3, 10), UNKNOWN);
        Bench.due("above: UNKNOWN ahead of NONE", x.above(3, 9), UNKNOWN);
        Bench.due("member: UNKNOWN ahead of OUTSIDE", x.member(3, 4), UNKNOWN);
        Bench.due("seen: UNKNOWN (type) ahead of OUTSIDE, NONE", x.seen(3, 0, 3), UNKNOWN);
        Bench.due("seen: UNKNOWN (member) ahead of OUTSIDE, NONE", x.seen(0, 3, 3), UNKNOWN);
        Bench.due("seen: OUTSIDE ahead of NONE, no such kind", x.seen(0, 0, 3), OUTSIDE);
        Bench.due("seen: OUTSIDE ahead of NONE, not under it", x.seen(2, 0, -1), OUTSIDE);
        Bench.due("erased: UNKNOWN ahead of OUTSIDE", x.erased(3, 3), UNKNOWN);
        Bench.due("bridge: UNKNOWN ahead of OUTSIDE, NONE", x.bridge(3, 0, 5), UNKNOWN);
        Bench.due("bridge: UNKNOWN ahead of NONE", x.bridge(3, 9, 0), UNKNOWN);
        Bench.due("bridge: OUTSIDE ahead of NONE", x.bridge(0, 0, 5), OUTSIDE);
        Bench.due("specific: UNKNOWN ahead of NONE", x.specific(0, 3, 9), UNKNOWN);
        Bench.due("rule: UNKNOWN ahead of OUTSIDE", x.rule(4, 0, 0, 3, 0), UNKNOWN);
        Bench.due("conflicts: UNKNOWN ahead of NONE", x.conflicts(3), UNKNOWN);
        Bench.due("tally: UNKNOWN ahead of OUTSIDE", x.tally(3, 1), UNKNOWN);
        Bench.due("tally: OUTSIDE ahead of NONE", x.tally(2, 1), OUTSIDE);
    }

    @Sentence(promise = 1, says = "They change nothing.")
    static void refusalsChangeNothing() {
        CallCourt x = Bench.court(BRIDGED);
        Bench.compile(x, "class A{} class A{}");
        Bench.due("rule", x.rule(0, 0, 0, 0, 1), 1);
        feedBlanks(x);
        String before = state(x);
        int[] refused = {x.trim(-1), x.trim(21), x.type(3, 0), x.type(0, 10), x.above(0, 0), x.above(3, 0), x.under(0,
            3),
            x.member(3, 0), x.member(0, 4), x.seen(0, 0, 3), x.seen(2, 0, 2), x.erased(0, 3), x.erased(0, 0),
            x.overrides(0, 3), x.bridge(0, 0, 0), x.bridge(1, 0, 5), x.same(0, 3, true), x.lookup(0, 3), x.specific(0,
                0, 0),
            x.may(0, 0, 0, 3), x.rule(0, 0, 0, 0, 3), x.rule(4, 0, 0, 0, 0), x.rule(-1, 0, 0, 0, 0), x.rule(0, 3, 0, 0,
                0),
            x.conflicts(3), x.conflicts(2), x.tally(0, 1), x.tally(2, 0), x.told(5)};
        for (int i = 0; i < refused.length; i++) {
            Bench.due("refusal " + i, refused[i] <= -11 && refused[i] >= -13 ? 1 : 0, 1);
        }
        Bench.due("the state is as before: " + before, state(x).equals(before) ? 1 : 0, 1);
    }

    @Sentence(promise = 2, says = "THE TAPE has bytes, 4000 at most.")
    static void aTapeOf4000Bytes() {
        Texts.right(blanks(3990) + "class A{ }", 1);
        Texts.right("class A{" + blanks(3991) + "}", 1);
        Texts.wrongAt(1, 3999, "class A{" + blanks(3991) + "$");
        Texts.wrongAt(2, 4000, "class A{" + blanks(3992));
        Texts.wrongAt(2, 3999, blanks(3999) + "A");
        // a token for each byte
        Texts.wrongAt(2, 0, ";".repeat(4000));
        Texts.wrongAt(1, 0, "a".repeat(4000));
        Texts.right("\n".repeat(4000), 0);
    }

    // ---- 1 a new object

    @Sentence(promise = 1, says = "No types, an empty TAPE.")
    static void nothingAtFirst() {
        CallCourt x = new CallCourt();
        for (int what = 0; what <= 4; what++) {
            Bench.due("told(" + what + ")", x.told(what), 0);
        }
        Bench.due("type(0, 0)", x.type(0, 0), UNKNOWN);
        Bench.due("above(0, 0)", x.above(0, 0), UNKNOWN);
        Bench.due("under(0, 0)", x.under(0, 0), UNKNOWN);
        Bench.due("member(0, 0)", x.member(0, 0), UNKNOWN);
        Bench.due("seen(0, 0, 0)", x.seen(0, 0, 0), UNKNOWN);
        Bench.due("erased(0, 0)", x.erased(0, 0), UNKNOWN);
        Bench.due("overrides(0, 0)", x.overrides(0, 0), UNKNOWN);
        Bench.due("bridge(0, 0, 0)", x.bridge(0, 0, 0), UNKNOWN);
        Bench.due("same(0, 0, true)", x.same(0, 0, true), UNKNOWN);
        Bench.due("lookup(0, 0)", x.lookup(0, 0), UNKNOWN);
        Bench.due("specific(0, 0, 0)", x.specific(0, 0, 0), UNKNOWN);
        Bench.due("may(0, 0, 0, 0)", x.may(0, 0, 0, 0), UNKNOWN);
        Bench.due("rule(3, 0, 0, 0, 0)", x.rule(3, 0, 0, 0, 0), UNKNOWN);
        Bench.due("conflicts(0)", x.conflicts(0), UNKNOWN);
        Bench.due("tally(0, 0)", x.tally(0, 0), UNKNOWN);
        Bench.due("trim(1)", x.trim(1), OUTSIDE);
        Bench.due("trim(0)", x.trim(0), 0);
        Bench.due("compile()", x.compile(), 0);
        Bench.due("another object's types", Bench.court(BRIDGED).told(0), 3);
        Bench.due("are not this one's", x.told(0), 0);
    }

    // ---- 2 feed

    @Sentence(promise = 2, says = "Twenty bytes come behind THE TAPE, of each number the highest first: how many it"
        + " has.")
    static void twentyBytesTheHighestFirst() {
        for (int place = 0; place < 20; place++) {
            int[] numbers = {BLANKS, BLANKS, BLANKS, BLANKS, BLANKS};
            int shift = 24 - place % 4 * 8;
            // a byte of 255, which makes a number below 0 where it is the highest
            numbers[place / 4] |= 255 << shift;
            CallCourt x = new CallCourt();
            Bench.due("feed", x.feed(numbers[0], numbers[1], numbers[2], numbers[3], numbers[4]), 20);
            Bench.due("the place of byte " + place, x.compile(), -20 - place);
        }
        CallCourt x = new CallCourt();
        Bench.due("the first feed", x.feed(0x7061636B, 0x20616263, 0x3B636C61, 0x73732044, 0x7B7D2020), 20);
        Bench.due("another feed comes behind it", x.feed(0x636C6173, 0x7320457B, 0x7D202020, BLANKS, BLANKS), 40);
        Bench.due("compile: two types, so all bytes stand in their order", x.compile(), 2);
        feedBlanks(x);
        x.trim(3);
        Bench.due("behind what is kept", x.feed(-1, BLANKS, BLANKS, BLANKS, BLANKS), 23);
        Bench.due("compile: at the fourth byte", x.compile(), -23);
        Bench.due("from the first byte on behind a compile", feedBlanks(x), 20);
    }

    @Sentence(promise = 2, says = "FULL: it would have more than 4000.")
    static void fullBeyond4000() {
        CallCourt x = new CallCourt();
        for (int n = 1; n <= 200; n++) {
            Bench.due("feed " + n, feedBlanks(x), n * 20);
        }
        Bench.due("feed 201", x.feed(-1, -1, -1, -1, -1), CallCourt.FULL);
        Bench.due("told(4)", x.told(4), 4000);
        x.trim(3981);
        Bench.due("feed upon 3981", x.feed(-1, -1, -1, -1, -1), CallCourt.FULL);
        Bench.due("told(4) is as it was", x.told(4), 3981);
        x.trim(3980);
        Bench.due("feed upon 3980", feedBlanks(x), 4000);
        Bench.due("no byte of a refused feed is there", x.compile(), 0);
        Bench.due("feed behind a compile", feedBlanks(x), 20);
    }

    // ---- 3 trim

    @Sentence(promise = 3, says = "THE TAPE keeps its first n bytes: n.")
    static void trimKeepsTheFirst() {
        CallCourt x = new CallCourt();
        Bench.due("trim(0) of nothing", x.trim(0), 0);
        Bench.feed(x, "class A{} class B{}$");
        Bench.due("trim of all", x.trim(20), 20);
        Bench.due("told(4)", x.told(4), 20);
        Bench.due("trim of all but one", x.trim(19), 19);
        Bench.due("told(4)", x.told(4), 19);
        Bench.due("compile", x.compile(), 2);
        Bench.feed(x, "class A{} class B{}$");
        Bench.due("trim(9)", x.trim(9), 9);
        Bench.due("compile", x.compile(), 1);
        Bench.feed(x, "$");
        Bench.due("trim(0)", x.trim(0), 0);
        Bench.due("told(4)", x.told(4), 0);
        Bench.due("compile", x.compile(), 0);
        CallCourt full = withBlanks(4000);
        Bench.due("trim(4000)", full.trim(4000), 4000);
        Bench.due("trim(3999)", full.trim(3999), 3999);
    }

    @Sentence(promise = 3, says = "OUTSIDE: n is below 0, or above what it has.")
    static void trimOutside() {
        for (int has : new int[] {0, 1, 19, 20, 3999, 4000}) {
            CallCourt x = withBlanks(has);
            for (int n : new int[] {-1, Integer.MIN_VALUE, has + 1, 4001, Integer.MAX_VALUE}) {
                Bench.due("trim(" + n + ") of " + has, x.trim(n), OUTSIDE);
                Bench.due("told(4) behind trim(" + n + ")", x.told(4), has);
            }
        }
        CallCourt x = withBlanks(20);
        x.trim(7);
        Bench.due("what was trimmed off is no more", x.trim(8), OUTSIDE);
        x.compile();
        Bench.due("nor is what was compiled", x.trim(1), OUTSIDE);
    }

    // ---- 4 compile

    @Sentence(promise = 4, says = "THE TAPE (which is empty then) is a text, its types in place of those there: how"
        + " many;")
    static void compileReplaces() {
        CallCourt x = new CallCourt();
        Bench.due("an empty tape", x.compile(), 0);
        Bench.due("24 types", Bench.compile(x, "pack p;" + Texts.types(23) + "class Z{int m();}"), 24);
        Bench.due("the tape is empty", x.told(4), 0);
        Bench.due("type(23, 5)", x.type(23, 5), 1);
        Bench.due("one type", Bench.compile(x, "face B{}"), 1);
        Bench.due("type(0, 2) is the new one's", x.type(0, 2), 2);
        Bench.due("type(1, 2): the old ones are gone", x.type(1, 2), UNKNOWN);
        Bench.due("member(0, 0): their members too", x.member(0, 0), UNKNOWN);
        Bench.due("told(1)", x.told(1), 0);
        Bench.due("told(3)", x.told(3), 0);
        Bench.due("bridges", Bench.compile(x, BRIDGED), 3);
        Bench.due("told(2)", x.told(2), 1);
        Bench.due("the empty tape again", x.compile(), 0);
        for (int what = 0; what <= 4; what++) {
            Bench.due("told(" + what + ") behind it", x.told(what), 0);
        }
    }

    @Sentence(promise = 4, says = "its types in place of those there")
    static void nothingIsLeftOfOlderTexts() {
        String[] texts = {
            "pack p; pack q; face F<V,W>{V m(V,W); static int s();} class A{open A k(); own int z();} loader 1;"
                + " class B:A,F<A,B>{open B k(); open A m(A,B);} abstract class C:B{open abstract int j();}",
            "class A{} class B{} class C{} class D{}",
            "pack p; class A{} face B{int m(int,int);}",
            "face A{} face B:A{} face C:A{} class D:B,C,A{} class E:D{}",
            "class P{} face F<V under P>{none m(V);} face G<V under P>:F<V>{} class D<X>:G<X>,F<X>{open none m(X);}"
                + " class E:D<P>{}",
            "face F{lent int m();} face G{lent int m();} class C:F,G{int k();}",
            "class A{int m(); int k();} class B of A:A{int m();} class C:B{static none j(); int k();}",
            "class A{open A m();} class B:A{open B m();} class C:B{open C m();}",
            "class A{B m();} class B{}",
            "face A{int m();} face B{none m();} class C:B{}",
            "face A{int m();} face B{} class C:A,B{}",
            "class A{} class B{} class C of B{int m();} class D{int m(); int m(); int k(A);}",
            Texts.fullTypes(15) + "$",
            ""};
        for (String last : texts) {
            CallCourt fresh = new CallCourt();
            int want = Bench.compile(fresh, last);
            String answers = Answers.of(fresh);
            for (String first : texts) {
                for (String second : texts) {
                    CallCourt x = new CallCourt();
                    // there may be two places for types: each is used, and the last text's again
                    Bench.compile(x, first);
                    Bench.compile(x, second);
                    Bench.compile(x, first);
                    if (want < 0) {
                        Bench.compile(x, "");
                    }
                    String behind = "compile of " + last + " behind " + first + " and " + second;
                    Bench.due(behind, Bench.compile(x, last), want);
                    Bench.due("the answers are a new object's: " + behind, Answers.of(x).equals(answers) ? 1 : 0, 1);
                }
            }
        }
    }

    @Sentence(promise = 4, says = "-20 less the place of a FAULT: all is as it was, but THE TAPE.")
    static void aFaultLeavesAllAsItWas() {
        CallCourt x = Bench.court(BRIDGED);
        x.rule(0, 0, 0, 0, 1);
        String before = state(x).substring(4);
        String[] texts = {"$", "class A{int m();int m();}", "pack q; pack r; class C{open C m();}"
            + " class D:C{open D m();} $",
            "loader 2; face F<V>{V m(V);} class C:F<C>{open C m(C);} class D:C{none k();} class E:D{"};
        int[] places = {0, texts[1].length() - 1, texts[2].length() - 1, texts[3].length()};
        int[] faults = {1, 7, 1, 2};
        for (int i = 0; i < texts.length; i++) {
            Bench.due("compile of " + texts[i], Bench.compile(x, texts[i]), -20 - places[i]);
            Bench.due("fault of " + texts[i], x.fault(), faults[i]);
            Bench.due("the tape is empty behind " + texts[i], x.told(4), 0);
            Bench.due("hops() is as it was", x.hops(), 1);
            Bench.due("all else is as it was behind " + texts[i], state(x).substring(4).equals(before) ? 1 : 0, 1);
        }
        Bench.due("what was fed is no more", x.compile(), 0);
    }

    // ---- 5 fault

    @Sentence(promise = 5, says = "The FAULT of the latest compile();")
    static void faultOfTheLatestCompile() {
        CallCourt x = new CallCourt();
        String[] texts = {"$", "class", "class A{} class A{}", "class A{} face F:A{}", "face F{near int m();}",
            Texts.types(24) + "class A{}", "class A{int m(); int m();}",
            "face F<V>{} class A:F<A>{} class B:A,F<B>{}", "class A{int m();} class B:A{none m();}",
            "face A{int m();} face B{none m();} class C:A,B{}"};
        for (int i = 0; i < texts.length; i++) {
            Bench.compile(x, texts[i]);
            Bench.due("fault of " + texts[i], x.fault(), i + 1);
            Bench.due("fault of " + texts[i] + ", once more", x.fault(), i + 1);
        }
        Bench.feed(x, "class A{}");
        Bench.due("a feed is no compile", x.fault(), 10);
        x.compile();
        Bench.due("none behind a right one", x.fault(), 0);
    }

    @Sentence(promise = 5, says = "0: none, and ahead of any.")
    static void faultIsNoneAtFirst() {
        CallCourt x = new CallCourt();
        Bench.due("ahead of any compile", x.fault(), 0);
        Bench.feed(x, "$");
        Bench.due("with a wrong text on the tape", x.fault(), 0);
        x.trim(0);
        x.compile();
        Bench.due("of an empty text", x.fault(), 0);
    }

    // ---- 22 told

    @Sentence(promise = 22, says = "How many: 0 types, 1 members, 2 BRIDGES,")
    static void toldTypesMembersBridges() {
        told(new CallCourt(), 0, 0, 0);
        told(Bench.court(Texts.types(24)), 24, 0, 0);
        told(Bench.court(Texts.fullTypes(15)), 15, 120, 0);
        told(Bench.court(BRIDGED), 3, 3, 1);
        told(Bench.court(Texts.narrowing()), 24, 24, 276);
    }

    private static void told(CallCourt x, int types, int members, int bridges) {
        Bench.due("told(0)", x.told(0), types);
        Bench.due("told(1)", x.told(1), members);
        Bench.due("told(2)", x.told(2), bridges);
    }

    @Sentence(promise = 22, says = "3 packages (no package is none),")
    static void toldPackages() {
        Bench.due("no package", Bench.court("class A{} loader 1; class B{}").told(3), 0);
        Bench.due("one", Bench.court("class A{} pack p; class B{}").told(3), 1);
        Bench.due("one in two loaders", Bench.court("pack p; class A{} loader 1; class B{}").told(3), 1);
        Bench.due("one twice", Bench.court("pack p; class A{} pack q; class B{} pack p; class C{}").told(3), 2);
        Bench.due("without a type", Bench.court("pack p; pack q;").told(3), 2);
        // as many as 4000 bytes can have: 52 NAMES of one letter, 454 of two
        StringBuilder text = new StringBuilder();
        for (char c = 'A'; c <= 'z'; c += c == 'Z' ? 7 : 1) {
            text.append("pack ").append(c).append(';');
        }
        for (int i = 0; i < 454; i++) {
            text.append("pack ").append((char) ('a' + i % 26)).append((char) ('A' + i / 26)).append(';');
        }
        Bench.due("the most (" + text.length() + " bytes)", Bench.court(text.toString()).told(3), 506);
    }

    @Sentence(promise = 22, says = "4 bytes of THE TAPE.")
    static void toldBytes() {
        for (int has : new int[] {0, 1, 20, 3999, 4000}) {
            Bench.due("told(4)", withBlanks(has).told(4), has);
        }
        CallCourt x = withBlanks(40);
        x.compile();
        Bench.due("told(4) behind a compile", x.told(4), 0);
    }

    @Sentence(promise = 22, says = "OUTSIDE.")
    static void toldOutside() {
        CallCourt x = Bench.court(BRIDGED);
        for (int what : new int[] {-1, 5, Integer.MIN_VALUE, Integer.MAX_VALUE}) {
            Bench.due("told(" + what + ")", x.told(what), OUTSIDE);
        }
    }
}
