/** Promises 18 to 21: rule, hops, conflicts, tally. */
final class BoundsOfRules {
    private static final int UNKNOWN = CallCourt.UNKNOWN, OUTSIDE = CallCourt.OUTSIDE, NONE = CallCourt.NONE;
    private static final int LEAST = Integer.MIN_VALUE, MOST = Integer.MAX_VALUE;
    /** Two faces with a BRIDGE each to what the other one's BRIDGE is for,
        so that C's calls never end by themselves. */
    private static final String ENDLESS = "class P{} class Q{} face R<V under P>{none m(V);}"
        + " face S<V under Q>{none m(V);} face F:S<P>{lent none m(P);} face G:R<Q>{lent none m(Q);}"
        + " face H:F{none m(P);} face I:G{none m(Q);} class C:H,I{}";

    private BoundsOfRules() {
    }

    /** A court and the uses of its members. */
    private static final class Uses {
        private final CallCourt court;

        Uses(String text) {
            court = Bench.court(text);
        }

        /** numbers: sort, caller, named, member, receiver, and what is due. */
        void rule(int... numbers) {
            Bench.due("rule(" + numbers[0] + ", " + numbers[1] + ", " + numbers[2] + ", " + numbers[3] + ","
                + " " + numbers[4] + ")",
                court.rule(numbers[0], numbers[1], numbers[2], numbers[3], numbers[4]), numbers[5]);
        }

        void hops(int want) {
            Bench.due("hops()", court.hops(), want);
        }

        /** want: how many give -7, -6 .. -1, a member's number. */
        void tally(int t, int... want) {
            for (int outcome = -7; outcome <= 0; outcome++) {
                Bench.due("tally(" + t + ", " + outcome + ")", court.tally(t, outcome), want[outcome + 7]);
            }
        }

        void conflicts(int t, int want) {
            Bench.due("conflicts(" + t + ")", court.conflicts(t), want);
        }
    }

    /**
     * A text in which member 0, named by type n + 1, runs through n BRIDGES (two at least) for its last type. BRIDGE j,
     * of F (j even) or of G (j odd), has kind Kj and is to the member of kind K(j + 1). H under F and I under G hide
     * these members from the class, but for the last one, so that the other face's BRIDGE is the only body there.
     */
    private static String chain(int n) {
        StringBuilder kinds = new StringBuilder();
        for (int j = 0; j <= n; j++) {
            kinds.append("class K").append(j).append("{}");
        }
        StringBuilder bases = new StringBuilder();
        StringBuilder faces = new StringBuilder();
        StringBuilder hiding = new StringBuilder();
        for (int side = 0; side < 2; side++) {
            StringBuilder refs = new StringBuilder();
            StringBuilder members = new StringBuilder();
            StringBuilder hidden = new StringBuilder();
            for (int j = side; j < n; j += 4) {
                boolean two = j + 2 < n;
                bases.append("face R").append(j).append("<V under K").append(j);
                bases.append(two ? ",W under K" + (j + 2) + ">{none m(V);none m(W);}" : ">{none m(V);}");
                refs.append(j < 2 ? ":R" : ",R").append(j).append("<K").append(j + 1);
                refs.append(two ? ",K" + (j + 3) + ">" : ">");
            }
            for (int j = side; j < n; j += 2) {
                members.append("lent none m(K").append(j + 1).append(");");
                hidden.append(j + 1 < n ? "none m(K" + (j + 1) + ");" : "");
            }
            faces.append("face ").append(side == 0 ? "F" : "G").append(refs).append('{').append(members).append('}');
            hiding.append("face ").append(side == 0 ? "H:F{" : "I:G{").append(hidden).append('}');
        }
        return kinds.append(bases).append(faces).append(hiding).append("class C:H,I{}").toString();
    }

    /** The member that has the last kind of chain(n). */
    private static int lastOfChain(int n) {
        return n % 2 == 0 ? 2 * n - 1 : n + n / 2;
    }

    // ---- 18 rule: CAN replace

    @Sentence(promise = 18, says = "A METHOD r of a class CAN replace a found one f of D: one NAME, kinds, result;")
    static void replacesByNameKindsResult() {
        Uses x = new Uses("class A{open int m(); open int k(A);} class B:A{open int m(int); open int n(); open int"
            + " k(B);} class C:B{open int m();}");
        x.rule(0, 0, 0, 0, 1, 0);
        x.rule(0, 0, 0, 1, 1, 1);
        x.rule(0, 0, 0, 0, 2, 5);
        x.rule(0, 0, 0, 1, 2, 1);
        // another result, of another package
        Uses y = new Uses("pack p; class A{int m();} pack q; class B:A{none m();} pack p; class C:B{int m();}");
        y.rule(0, 0, 0, 0, 1, 0);
        y.rule(0, 0, 0, 0, 2, 2);
    }

    @Sentence(promise = 18, says = "result; neither own nor static; and f")
    static void replacesNeitherOwnNorStatic() {
        Uses x = new Uses("class A{open int m();} class B:A{own int m();} class C:B{} class D:B{open int m();}");
        x.rule(0, 0, 0, 0, 1, 0);
        x.rule(0, 0, 0, 0, 2, 0);
        x.rule(0, 0, 0, 0, 3, 2);
        // a static one does not stand in for a face's
        Uses y = new Uses("class A{open static int m();} face F{lent int m();} class C:A,F{} class E{own int m();}"
            + " class G:E,F{}");
        y.rule(1, 2, 1, 1, 2, 1);
        y.rule(1, 2, 1, 1, 4, 1);
        // nor is a static one between
        Uses z = new Uses("pack p; class A{int m();} pack q; class B:A{open static int m();}");
        z.rule(0, 0, 0, 0, 1, 0);
    }

    @Sentence(promise = 18, says = "and f is open or near,")
    static void replacesWhatIsOpenOrNear() {
        Uses x = new Uses("pack p; class A{open int a(); near int b(); int c();} pack q;"
            + " class B:A{open int a(); near int b(); int c();} loader 1;"
            + " class C:B{open int a(); near int b(); int c();}");
        x.rule(0, 0, 0, 0, 1, 3);
        x.rule(0, 0, 0, 1, 1, 4);
        x.rule(0, 0, 0, 2, 1, 2);
        x.rule(0, 0, 0, 0, 2, 6);
        x.rule(0, 0, 0, 1, 2, 7);
        x.rule(0, 0, 0, 2, 2, 2);
    }

    @Sentence(promise = 18, says = "or r's type and D are of one run-time package,")
    static void replacesInOnePackage() {
        Uses x = new Uses("pack p; class A{int m();} class B:A{int m();} pack q; class C:A{int m();} pack p;"
            + " class D:C{int m();} loader 1; class E:A{int m();}");
        x.rule(0, 0, 0, 0, 1, 1);
        x.rule(0, 0, 0, 0, 2, 0);
        x.rule(0, 0, 0, 0, 3, 3);
        x.rule(0, 0, 0, 0, 4, 0);
        // D is the found one's type, not the named one
        x.rule(0, 2, 2, 2, 3, 2);
    }

    @Sentence(promise = 18, says = "or some o of a class between, that CAN replace f, and r CAN replace o.")
    static void replacesThroughOneBetween() {
        Uses x = new Uses("pack p; class A{int m();} class B:A{open int m();} pack q; class C:B{open int m();} pack r;"
            + " class D:C{} class E:D{open int m();}");
        x.rule(0, 0, 0, 0, 2, 2);
        x.rule(0, 0, 0, 0, 3, 2);
        x.rule(0, 0, 0, 0, 4, 3);
        // what is between is not open: C cannot replace B's, so not A's
        Uses y = new Uses("pack p; class A{int m();} class B:A{int m();} pack q; class C:B{open int m();} pack p;"
            + " class D:C{open int m();} pack q; class E:D{open int m();} pack r; class F:C{open int m();}");
        y.rule(0, 0, 0, 0, 2, 1);
        y.rule(0, 0, 0, 0, 3, 3);
        // E through D
        y.rule(0, 0, 0, 0, 4, 4);
        // F can replace C's, but that cannot replace A's
        y.rule(0, 0, 0, 0, 5, 1);
        y.rule(0, 2, 2, 2, 5, 5);
        // through one of its own package, which is not open: D by C's package
        Uses z = new Uses("pack p; class A{int m();} class B:A{near int m();} pack q; class C:B{near int m();}"
            + " class D:C{open int m();}");
        z.rule(0, 0, 0, 0, 2, 2);
        z.rule(0, 0, 0, 0, 3, 3);
        // above D nothing counts: G of the like package as the class above D's
        Uses v = new Uses("pack q; class A{int m();} pack p; class B:A{int m();} pack q; class C:B{int m();}");
        v.rule(0, 1, 1, 1, 2, 1);
        v.rule(0, 0, 0, 0, 2, 2);
    }

    // ---- 18 rule: SELECT

    @Sentence(promise = 18, says = "SELECT for a receiver's type: an own one is itself;")
    static void selectsAnOwnOneItself() {
        Uses x = new Uses("class A{own int m();} class B:A{open int m();} class C:B{own int m();}"
            + " face F{own lent int k();} class D:F{open int k();}");
        x.rule(0, 0, 0, 0, 1, 0);
        x.rule(0, 0, 0, 0, 2, 0);
        x.rule(1, 3, 3, 3, 4, 3);
        x.rule(0, 2, 2, 0, 2, 2);
    }

    @Sentence(promise = 18, says = "else from it upward through classes the first METHOD that is f or CAN replace it")
    static void selectsUpwardThroughClasses() {
        Uses x = new Uses("face F{lent int m();} class A{open int m();} class B:A{open int m();} class C:B{}"
            + " class D:C,F{} class E:D{open int m();} class G:A,F{}");
        x.rule(0, 1, 1, 1, 1, 1);
        x.rule(0, 1, 1, 1, 2, 2);
        x.rule(0, 1, 1, 1, 3, 2);
        x.rule(0, 1, 1, 1, 4, 2);
        x.rule(0, 1, 1, 1, 5, 3);
        // ahead of the face's body, though the face is named
        x.rule(1, 0, 0, 0, 4, 2);
        x.rule(1, 0, 0, 0, 6, 1);
        // A's is not f and cannot replace it: the face's
        Uses y = new Uses("face F{lent int m();} class A{own int m();} class B:A,F{}");
        y.rule(1, 0, 0, 0, 2, 0);
        // through all of 24 classes, a member in the first one alone, and in each
        Uses z = new Uses(Texts.ladder("int m();", ""));
        z.rule(0, 0, 0, 0, 23, 0);
        Uses v = new Uses(Texts.ladder("int m();", "int m();"));
        for (int receiver = 23; receiver >= 0; receiver--) {
            v.rule(0, 0, 0, 0, receiver, receiver);
        }
        v.rule(0, 0, 0, 0, 23, 23);
        // all but the first one of another package: none can replace it
        Uses w = new Uses(Texts.ladder("int m();", "int m();").replace("class A1:", "pack q; class A1:"));
        w.rule(0, 0, 0, 0, 23, 0);
        w.rule(0, 1, 1, 1, 23, 23);
    }

    @Sentence(promise = 18, says = "(an abstract one: -4);")
    static void anAbstractOneOfAClass() {
        Uses x = new Uses("face F{lent int m();} abstract class A{open abstract int m();} class B:A,F{}"
            + " class C:B{open int m();} abstract class D:C{open abstract int m();} class E:D{}");
        x.rule(0, 1, 1, 1, 2, -4);
        x.rule(1, 0, 0, 0, 2, -4);
        x.rule(0, 1, 1, 1, 3, 2);
        x.rule(0, 1, 1, 1, 5, -4);
    }

    @Sentence(promise = 18, says = "else, of the SPECIFIC ones for it, the one that is not abstract;")
    static void selectsTheOnlyBody() {
        Uses x = new Uses("face A{int m();} face B{lent int m();} class C:A,B{} class D:B{} class E:D,A{}"
            + " face G:B{lent int m();} class H:D,G{}");
        x.rule(1, 0, 0, 0, 2, 1);
        x.rule(1, 1, 1, 1, 3, 1);
        x.rule(1, 0, 0, 0, 4, 1);
        // what is SPECIFIC for the receiver, not for the named type
        x.rule(0, 3, 3, 1, 6, 2);
        x.rule(1, 1, 1, 1, 6, 2);
    }

    @Sentence(promise = 18, says = "none: -4;")
    static void selectsNone() {
        Uses x = new Uses("face A{int m();} class B:A{} face C{lent int m();} face D:C{int m();} class E:D{}"
            + " class F:A,D{}");
        x.rule(1, 0, 0, 0, 1, -4);
        x.rule(0, 1, 1, 0, 1, -4);
        x.rule(1, 2, 2, 1, 4, -4);
        x.rule(1, 0, 0, 0, 5, -4);
    }

    @Sentence(promise = 18, says = "two or more: -3.")
    static void selectsTwoOrMore() {
        Uses x = new Uses("face A{lent int m();} face B{lent int m();} face C{lent int m();} face D{int m();}"
            + " class E:A,B{} class F:A,B,C{} class G:D,A{} class H:D,A,B{} class I:E{open int m();}");
        x.rule(1, 0, 0, 0, 4, -3);
        x.rule(0, 4, 4, 0, 4, -3);
        x.rule(1, 2, 2, 2, 5, -3);
        x.rule(1, 3, 3, 3, 6, 0);
        x.rule(1, 3, 3, 3, 7, -3);
        x.rule(1, 0, 0, 0, 8, 4);
    }

    @Sentence(promise = 18, says = "A BRIDGE runs as a call of the member that it is to: that one is SELECTED for the"
        + " receiver then")
    static void aBridgeRunsItsMember() {
        Uses x = new Uses("class A{open A m();} class B:A{open B m();} class C:B{} class D:C{open D m();}"
            + " class E:B{open B m();}");
        x.rule(0, 0, 0, 0, 0, 0);
        x.hops(0);
        x.rule(0, 0, 0, 0, 1, 1);
        x.hops(1);
        x.rule(0, 0, 0, 0, 2, 1);
        x.hops(1);
        x.rule(0, 0, 0, 0, 3, 2);
        x.hops(1);
        // E's BRIDGE is E's own
        x.rule(0, 0, 0, 0, 4, 3);
        x.hops(1);
        // B's BRIDGE, found above: what it is to is SELECTED for the receiver, which has its own
        x.rule(2, 4, 1, 0, 4, 3);
        x.hops(1);
        x.rule(2, 3, 0, 0, 3, 2);
        x.hops(2);
        // a BRIDGE is found, of what is not member 0, and another one is SELECTED in its place
        Uses z = new Uses("class Z{open int q();} class A{open A m();} class B:A{open B m();} class C:B{open C m();}"
            + " class D:C{}");
        z.rule(0, 2, 2, 1, 2, 2);
        z.hops(1);
        z.rule(0, 2, 2, 1, 3, 3);
        z.hops(1);
        z.rule(0, 2, 2, 2, 4, 3);
        z.hops(1);
        z.rule(0, 3, 3, 1, 4, 3);
        z.hops(1);
        // behind a BRIDGE no body, two bodies
        Uses y = new Uses("face E<V>{none m(V);} class A{} face F<V under A>:E<V>{lent none m(V);}"
            + " abstract class K{open abstract none m(A);} class L:K,F<A>{} face P{lent none m(A);} class Q:F<A>,P{}");
        y.rule(1, 0, 0, 0, 4, -4);
        y.hops(1);
        y.rule(1, 0, 0, 0, 6, -3);
        y.hops(1);
    }

    @Sentence(promise = 18, says = "(at most 8 BRIDGES: more is -7).")
    static void eightBridgesAtMost() {
        for (int n = 2; n <= 8; n++) {
            Uses x = new Uses(chain(n));
            x.rule(1, n + 1, n + 1, 0, x.court.told(0) - 1, lastOfChain(n));
            x.hops(n);
        }
        Uses x = new Uses(chain(9));
        x.rule(1, 10, 10, 0, 19, -7);
        x.hops(8);
        // from the second kind on it is eight again: G's m of kind K1 is looked for
        x.rule(1, 13, 13, 5, 19, lastOfChain(9));
        x.hops(8);
        Uses y = new Uses(ENDLESS);
        y.rule(1, 2, 2, 0, 8, -7);
        y.hops(8);
        y.rule(0, 8, 8, 1, 8, -7);
        y.hops(8);
    }

    // ---- 18 rule: RULE

    @Sentence(promise = 18, says = "RULE of a use: SORT 0 (a class's), 1 (a face's), 2 (of the one above), 3 (static):"
        + " -5: SORT 0, 2 of a face,")
    static void sortsOfAFace() {
        Uses x = new Uses("face F{lent int m(); static int s();} face G:F{} class A:G{} class B{}");
        x.rule(0, 2, 0, 0, 2, -5);
        x.rule(0, 2, 1, 0, 2, -5);
        x.rule(2, 2, 0, 0, 2, -5);
        x.rule(2, 3, 1, 0, 3, -5);
        x.rule(2, 0, 0, 0, 2, -5);
        // that of a face is told ahead of what follows: nothing found
        x.rule(0, 2, 1, 1, 0, -5);
        x.rule(2, 3, 1, 1, 3, -5);
        x.rule(1, 2, 0, 0, 2, 0);
        x.rule(3, 2, 0, 1, 2, 1);
    }

    @Sentence(promise = 18, says = "1 of a class")
    static void sortOneOfAClass() {
        Uses x = new Uses("face F{lent int m();} class A:F{open int k();} abstract class B:A{}");
        x.rule(1, 1, 1, 0, 1, -5);
        x.rule(1, 1, 1, 1, 1, -5);
        x.rule(1, 1, 2, 1, 1, -5);
        x.rule(0, 1, 1, 0, 1, 0);
        x.rule(1, 1, 0, 0, 1, 0);
    }

    @Sentence(promise = 18, says = "(2: of a face that is a REF of the caller is right);")
    static void sortTwoOfARefOfTheCaller() {
        Uses x = new Uses("face F{lent int m();} face E{} face G:F{} class A:E,F{open int m();} class B:A{} class C:G{}"
            + " class D:E,G{}");
        x.rule(2, 3, 0, 0, 3, 0);
        x.rule(2, 3, 0, 0, 4, 0);
        // above it, but no REF
        x.rule(2, 4, 0, 0, 4, -5);
        x.rule(2, 5, 0, 0, 5, -5);
        // a face's REF, a class the receiver
        x.rule(2, 2, 0, 0, 5, 0);
        // found above the REF
        x.rule(2, 6, 2, 0, 6, 0);
        // the class above the caller is looked through for classes alone
        x.rule(2, 3, 1, 0, 3, -1);
    }

    @Sentence(promise = 18, says = "-1: LOOKUP finds nothing (in the named type;")
    static void nothingFound() {
        Uses x = new Uses("class A{open int m(); own int o();} class B{} face F{lent int k();} class C:A,F{}");
        x.rule(0, 1, 1, 0, 1, -1);
        x.rule(0, 0, 0, 2, 3, -1);
        x.rule(1, 0, 2, 0, 3, -1);
        x.rule(3, 0, 1, 0, 0, -1);
        x.rule(2, 3, 2, 0, 3, -1);
        // ahead of -6
        x.rule(0, 1, 1, 0, 2, -1);
        x.rule(2, 1, 1, 0, 2, -1);
        x.rule(0, 1, 3, 2, 3, 2);
    }

    @Sentence(promise = 18, says = "2, if that is a class above the caller: in the class next above the caller"
        + " instead);")
    static void inTheClassNextAboveTheCaller() {
        Uses x = new Uses("class A{open int m();} class B:A{open int m(); open int k();} class C:B{open int m();}"
            + " class D:C{open int m();} class E{}");
        x.rule(2, 3, 0, 0, 3, 3);
        x.rule(2, 3, 1, 0, 3, 3);
        x.rule(2, 3, 2, 0, 3, 3);
        x.rule(2, 2, 0, 0, 3, 1);
        x.rule(2, 1, 0, 0, 1, 0);
        // A has no k, but what is next above D finds one
        x.rule(2, 3, 0, 2, 3, 2);
        x.rule(2, 1, 0, 2, 1, -1);
        // not above the caller: in the named type
        x.rule(2, 0, 1, 2, 0, -6);
        x.rule(2, 4, 0, 2, 4, -1);
        x.rule(2, 1, 1, 2, 1, -6);
    }

    @Sentence(promise = 18, says = "-2: the caller MAY not")
    static void theCallerMayNot() {
        Uses x = new Uses("pack p; class A{own int o(); int n(); near int r(); own static int s();} pack q; class B:A{}"
            + " class C{} class D:B{}");
        x.rule(0, 1, 0, 0, 1, -2);
        x.rule(0, 1, 0, 1, 1, -2);
        x.rule(0, 2, 0, 2, 1, -2);
        x.rule(0, 1, 1, 2, 1, 2);
        x.rule(0, 3, 1, 2, 1, -2);
        x.rule(3, 1, 0, 3, 1, -2);
        x.rule(2, 1, 0, 1, 1, -2);
        x.rule(2, 1, 0, 2, 1, 2);
        // ahead of -5 and -6
        x.rule(0, 1, 0, 3, 1, -2);
        x.rule(0, 1, 0, 0, 2, -2);
    }

    @Sentence(promise = 18, says = "(of SORT 3 the caller itself stands for the receiver);")
    static void ofSortThreeTheCallerIsTheReceiver() {
        Uses x = new Uses("pack p; class A{near static int s(); near int m();} pack q; class B:A{} class C{}"
            + " class D:A{}");
        for (int receiver : new int[] {0, 1, 2, 3, 4, -1, LEAST, MOST}) {
            x.rule(3, 1, 0, 0, receiver, 0);
            // it may have m, which is not static
            x.rule(3, 1, 0, 1, receiver, -5);
            x.rule(3, 2, 0, 0, receiver, -2);
            // D is no kin of B's
            x.rule(3, 1, 3, 1, receiver, -2);
        }
    }

    @Sentence(promise = 18, says = "-5: it is static and SORT is not 3, or the other way round;")
    static void staticAndSortThree() {
        Uses x = new Uses("class A{open static int s(); open int m();} face F{static int t(); lent int k();}"
            + " class B:A,F{} class C:A{}");
        x.rule(0, 2, 0, 0, 2, -5);
        x.rule(1, 2, 1, 2, 2, -5);
        x.rule(2, 2, 0, 0, 2, -5);
        x.rule(2, 2, 1, 2, 2, -5);
        x.rule(3, 2, 0, 1, 2, -5);
        x.rule(3, 2, 1, 3, 2, -5);
        x.rule(3, 2, 2, 3, 2, -5);
        // ahead of -6
        x.rule(0, 2, 0, 0, 1, -5);
        x.rule(3, 2, 0, 0, 2, 0);
        x.rule(3, 2, 2, 0, 2, 0);
        x.rule(3, 2, 1, 2, 2, 2);
    }

    @Sentence(promise = 18, says = "-6: (not of SORT 3) the receiver is a face, an abstract class,")
    static void theReceiverIsNoPlainClass() {
        Uses x = new Uses("face F{lent int m(); static int s();} face G:F{} abstract class A:F{open int k();}"
            + " class B:A{} abstract class C:B{}");
        x.rule(1, 0, 0, 0, 0, -6);
        x.rule(1, 0, 0, 0, 1, -6);
        x.rule(1, 0, 0, 0, 2, -6);
        x.rule(1, 0, 0, 0, 3, 0);
        x.rule(1, 0, 0, 0, 4, -6);
        x.rule(0, 2, 2, 2, 2, -6);
        x.rule(0, 2, 2, 2, 3, 2);
        x.rule(0, 2, 2, 2, 4, -6);
        x.rule(2, 3, 2, 2, 3, 2);
        x.rule(2, 3, 2, 2, 4, -6);
        x.rule(3, 0, 0, 1, 0, 1);
        // ahead of -4, -3
        Uses y = new Uses("face F{int m();} face H{lent int k();} face I{lent int k();} abstract class A:F{}"
            + " abstract class B:H,I{}");
        y.rule(1, 0, 0, 0, 3, -6);
        y.rule(1, 1, 1, 1, 4, -6);
    }

    @Sentence(promise = 18, says = "or not under the named type")
    static void theReceiverIsNotUnderTheNamedType() {
        Uses x = new Uses("class A{open int m();} class B:A{} class C:A{} face F{lent int k();} class D:C,F{}");
        x.rule(0, 0, 1, 0, 0, -6);
        x.rule(0, 0, 1, 0, 1, 0);
        x.rule(0, 0, 1, 0, 2, -6);
        x.rule(0, 0, 0, 0, 2, 0);
        x.rule(1, 0, 3, 1, 2, -6);
        x.rule(1, 0, 3, 1, 4, 1);
        // the caller need not be above it
        x.rule(0, 1, 2, 0, 4, 0);
    }

    @Sentence(promise = 18, says = "(2: not under the caller;")
    static void ofSortTwoTheReceiverIsUnderTheCaller() {
        Uses x = new Uses("class A{open int m();} class B:A{} class C:B{} class D:A{} face F{lent int k();} class E:F{}"
            + " class G:F{} class H:E{}");
        x.rule(2, 1, 0, 0, 0, -6);
        x.rule(2, 1, 0, 0, 1, 0);
        x.rule(2, 1, 0, 0, 2, 0);
        x.rule(2, 1, 0, 0, 3, -6);
        x.rule(2, 5, 4, 1, 5, 1);
        x.rule(2, 5, 4, 1, 6, -6);
        x.rule(2, 5, 4, 1, 7, 1);
    }

    @Sentence(promise = 18, says = "or the caller is the named type, or not under it);")
    static void ofSortTwoTheCallerIsUnderTheNamedType() {
        Uses x = new Uses("class A{open int m();} class B:A{open int m();} class C:B{} class D:A{}");
        x.rule(2, 1, 1, 0, 1, -6);
        x.rule(2, 0, 0, 0, 0, -6);
        x.rule(2, 0, 1, 0, 1, -6);
        x.rule(2, 3, 1, 0, 3, -6);
        x.rule(2, 2, 1, 0, 2, 1);
        x.rule(2, 2, 0, 0, 2, 1);
    }

    @Sentence(promise = 18, says = "then what runs: SORT 3, 2: what was found (abstract: -4; a BRIDGE: as above),")
    static void whatWasFoundRuns() {
        Uses x = new Uses("abstract class A{open abstract int m(); open A k(); open static int s();}"
            + " class B:A{open int m(); open B k(); open static int s();} class C:B{open int m(); open C k();}");
        // not what the receiver has
        x.rule(2, 2, 1, 0, 2, 3);
        x.rule(2, 2, 1, 4, 2, 4);
        x.hops(0);
        x.rule(3, 2, 0, 2, 2, 2);
        x.rule(3, 2, 2, 2, 2, 5);
        // abstract
        x.rule(2, 1, 0, 0, 1, -4);
        x.rule(2, 1, 0, 0, 2, -4);
        x.rule(2, 1, 0, 1, 2, 1);
        // a BRIDGE of B's: its member is SELECTED for C, where it is a BRIDGE again
        x.rule(2, 2, 1, 1, 2, 7);
        x.hops(2);
        // of a face: the first of two bodies is what was found
        Uses y = new Uses("face F{lent int m();} face G{lent int m();} face H:G,F{} class C:H{} face I{int m();}"
            + " class D:I{open int m();}");
        y.rule(2, 3, 2, 0, 3, 1);
        y.rule(2, 5, 4, 0, 5, -4);
    }

    @Sentence(promise = 18, says = "else what is SELECTED: the member's number.")
    static void whatIsSelectedRuns() {
        Uses x = new Uses(Texts.fullTypes(14) + "class Y:T13{" + Texts.membersOf(8) + "}");
        x.rule(0, 0, 0, 0, 0, 0);
        x.rule(0, 13, 13, 111, 13, 111);
        x.rule(0, 13, 13, 104, 14, 112);
        x.rule(0, 13, 13, 0, 14, 112);
        x.rule(0, 13, 13, 7, 14, 119);
    }

    @Sentence(promise = 18, says = "RULE.")
    static void theFirstThatIsAgainstIt() {
        Uses x = new Uses("pack p; class A{own static int s(); own int o(); open static int t(); open int m();}"
            + " abstract class B:A{} face F{} pack q; class C{}");
        // -5, -1, -2, -5, -6: each is told though all that follow it hold, too
        x.rule(1, 3, 0, 0, 2, -5);
        x.rule(0, 3, 3, 0, 2, -1);
        x.rule(0, 3, 0, 0, 2, -2);
        x.rule(0, 3, 0, 2, 2, -5);
        x.rule(0, 3, 0, 3, 2, -6);
        x.rule(0, 3, 0, 3, 0, 3);
    }

    @Sentence(promise = 18, says = "UNKNOWN: caller, named, member, receiver (not of SORT 3);")
    static void ruleUnknown() {
        Uses x = new Uses("class A{open int m(); open static int s();} class B:A{}");
        for (int n : new int[] {-1, 2, LEAST, MOST}) {
            for (int sort = 0; sort <= 3; sort++) {
                x.rule(sort, n, 0, 0, 0, UNKNOWN);
                x.rule(sort, 0, n, 0, 0, UNKNOWN);
                x.rule(sort, 0, 0, n, 0, UNKNOWN);
            }
            x.rule(0, 0, 0, 0, n, UNKNOWN);
            x.rule(1, 0, 0, 0, n, UNKNOWN);
            x.rule(2, 1, 0, 0, n, UNKNOWN);
            x.rule(3, 1, 0, 1, n, 1);
            // no sort at all: the receiver counts
            x.rule(4, 0, 0, 0, n, UNKNOWN);
            x.rule(-1, 0, 0, 0, n, UNKNOWN);
        }
    }

    @Sentence(promise = 18, says = "OUTSIDE: sort is not 0 to 3.")
    static void ruleOutside() {
        Uses x = new Uses("class A{open int m(); open static int s();}");
        for (int sort : new int[] {-1, 4, LEAST, MOST}) {
            x.rule(sort, 0, 0, 0, 0, OUTSIDE);
            x.rule(sort, 0, 0, 1, 0, OUTSIDE);
        }
        x.rule(0, 0, 0, 0, 0, 0);
        x.rule(3, 0, 0, 1, 0, 1);
    }

    // ---- 19 hops

    @Sentence(promise = 19, says = "How many BRIDGES the latest rule() that was not refused ran through;")
    static void hopsOfTheLatestRule() {
        Uses x = new Uses("class A{open A m(); open static int s();} class B:A{open B m();} class C{own int p();}");
        x.rule(0, 0, 0, 0, 1, 2);
        x.hops(1);
        // refused ones leave it
        x.rule(0, 3, 0, 0, 1, UNKNOWN);
        x.hops(1);
        x.rule(4, 0, 0, 0, 0, OUTSIDE);
        x.hops(1);
        // so do other calls
        x.court.lookup(0, 0);
        x.court.conflicts(0);
        x.court.tally(0, 0);
        x.court.may(0, 0, 0, 0);
        x.hops(1);
        x.hops(1);
        // those that run none: 0
        int[][] none = {{0, 0, 0, 0, 0, 0}, {0, 2, 2, 0, 2, -1}, {0, 0, 2, 3, 2, -2}, {1, 0, 0, 0, 0, -5}, {0, 0, 0, 1,
            0, -5},
            {0, 0, 1, 0, 0, -6}, {3, 0, 0, 1, 0, 1}};
        for (int[] use : none) {
            x.rule(0, 0, 0, 0, 1, 2);
            x.hops(1);
            x.rule(use);
            x.hops(0);
        }
        x.rule(0, 0, 0, 0, 1, 2);
        Bench.compile(x.court, "class A{}");
        x.hops(1);
        Bench.compile(x.court, "$");
        x.hops(1);
    }

    @Sentence(promise = 19, says = "0 ahead of any.")
    static void noHopsAheadOfAny() {
        CallCourt x = new CallCourt();
        Bench.due("hops() of a new object", x.hops(), 0);
        x.rule(0, 0, 0, 0, 0);
        Bench.due("hops() behind a refused rule()", x.hops(), 0);
        Uses y = new Uses("class A{open A m();} class B:A{open B m();}");
        y.court.tally(1, 0);
        y.hops(0);
    }

    // ---- 20 conflicts

    @Sentence(promise = 20, says = "Of the members of a class that is not abstract, and of types above it: how many"
        + " give -3 in a use that names their own type")
    static void howManyConflicts() {
        String faces = "face A{lent int m(); lent int k(); int j();} face B{lent int m(); int k(); lent int j();} ";
        // m of A and of B; k and j have one body each
        Uses x = new Uses(faces + "class C:A,B{} class D:C{} class E:C{open int m();} class F:A{}"
            + " class G:D{int m(int);} class H{}");
        x.conflicts(2, 2);
        x.conflicts(3, 2);
        x.conflicts(4, 0);
        x.conflicts(5, 0);
        x.conflicts(6, 2);
        x.conflicts(7, 0);
        // those of faces further above, too, though they are not SPECIFIC
        Uses y = new Uses("face Z{int m();} face A:Z{lent int m();} face B:Z{lent int m();} class C:A,B{}");
        y.conflicts(3, 3);
        // two, but one by a BRIDGE
        Uses z = new Uses("face E<V>{none m(V);} class A{} face F<V under A>:E<V>{lent none m(V);}"
            + " face P{lent none m(A);} class Q:F<A>,P{}");
        z.conflicts(4, 3);
    }

    @Sentence(promise = 20, says = "(SORT 1: a face; else 0),")
    static void conflictsByTheSortOfTheType() {
        Uses x = new Uses("face A{lent int m(); static int s();} face B{lent int m();}"
            + " abstract class C:A,B{open int k();} class D:C{}");
        x.conflicts(3, 2);
        // of a class by SORT 0, of a face by SORT 1: nothing is -5
        x.tally(3, 0, 0, 0, 0, 2, 0, 0, 2);
    }

    @Sentence(promise = 20, says = "by that as the caller, the class being the receiver.")
    static void conflictsByTheTypeAsTheCaller() {
        // what C could not have of A is no hindrance: A itself calls
        Uses x = new Uses("pack p; class A{own int o(); int n(); near int r();} pack q;"
            + " face F{lent int m(); own lent int q();} face G{lent int m();} class C:A,F,G{}");
        x.conflicts(3, 2);
        x.tally(3, 0, 0, 0, 0, 2, 0, 0, 4);
        // the receiver is the class: what is two for C is one for E
        Uses y = new Uses("face F{lent int m();} face G{lent int m();} class C:F,G{} face H:F,G{lent int m();}"
            + " class E:C,H{}");
        y.conflicts(2, 2);
        y.conflicts(4, 0);
    }

    @Sentence(promise = 20, says = "UNKNOWN;")
    static void conflictsUnknown() {
        CallCourt x = Bench.court("class A{} class B{}");
        for (int t : new int[] {-1, 2, LEAST, MOST}) {
            Bench.due("conflicts(" + t + ")", x.conflicts(t), UNKNOWN);
        }
        Bench.due("conflicts(1)", x.conflicts(1), 0);
    }

    @Sentence(promise = 20, says = "NONE: a face, an abstract class.")
    static void conflictsNone() {
        Uses x = new Uses("face A{lent int m();} face B{lent int m();} abstract class C:A,B{} face D:A,B{}"
            + " class E:C{}");
        x.conflicts(0, NONE);
        x.conflicts(2, NONE);
        x.conflicts(3, NONE);
        x.conflicts(4, 2);
    }

    // ---- 21 tally

    @Sentence(promise = 21, says = "Likewise, but SORT 3 of static ones: how many give an outcome (-7 to -1;")
    static void howManyGiveAnOutcome() {
        Uses x = new Uses("face A{lent int m(); int k(); static int s(); own static int t();}"
            + " face B{lent int m(); int k();} class C:A,B{own int p(); static int q();} class D:C{open int k();}");
        x.tally(2, 0, 0, 0, 2, 2, 0, 0, 4);
        x.tally(3, 0, 0, 0, 0, 2, 0, 0, 7);
        new Uses(ENDLESS).tally(8, 6, 0, 0, 0, 0, 0, 0, 0);
        // nine BRIDGES for one, eight and fewer for the others
        Uses y = new Uses(chain(9));
        y.tally(19, 1, 0, 0, 0, 0, 0, 0, y.court.told(1) - 1);
        // of a class without members, and not of types that are not above it
        new Uses("class A{} class B:A{int m();}").tally(0, 0, 0, 0, 0, 0, 0, 0, 0);
    }

    @Sentence(promise = 21, says = "0: a member's number).")
    static void howManyGiveAMember() {
        // member 0 is a member's number, too
        new Uses("class A{open int m();} class B:A{open int m();}").tally(0, 0, 0, 0, 0, 0, 0, 0, 1);
        new Uses("class A{open int m();} class B:A{open int m();}").tally(1, 0, 0, 0, 0, 0, 0, 0, 2);
        new Uses(Texts.fullTypes(15)).tally(14, 0, 0, 0, 0, 0, 0, 0, 8);
        new Uses(Texts.fullLadder()).tally(14, 0, 0, 0, 0, 0, 0, 0, 120);
    }

    @Sentence(promise = 21, says = "UNKNOWN;")
    static void tallyUnknown() {
        CallCourt x = Bench.court("class A{open int m();} class B{}");
        for (int t : new int[] {-1, 2, LEAST, MOST}) {
            Bench.due("tally(" + t + ", 0)", x.tally(t, 0), UNKNOWN);
        }
        Bench.due("tally(1, 0)", x.tally(1, 0), 0);
    }

    @Sentence(promise = 21, says = "OUTSIDE: outcome;")
    static void tallyOutside() {
        CallCourt x = Bench.court("class A{open int m();}");
        for (int outcome : new int[] {-8, 1, LEAST, MOST}) {
            Bench.due("tally(0, " + outcome + ")", x.tally(0, outcome), OUTSIDE);
        }
        for (int outcome = -7; outcome <= 0; outcome++) {
            Bench.due("tally(0, " + outcome + ")", x.tally(0, outcome), outcome == 0 ? 1 : 0);
        }
    }

    @Sentence(promise = 21, says = "NONE.")
    static void tallyNone() {
        CallCourt x = Bench.court("face F{int m();} abstract class B{open int m();} class C:B{}");
        for (int outcome = -7; outcome <= 0; outcome++) {
            Bench.due("tally(0, " + outcome + ")", x.tally(0, outcome), NONE);
            Bench.due("tally(1, " + outcome + ")", x.tally(1, outcome), NONE);
        }
        Bench.due("tally(2, 0)", x.tally(2, 0), 1);
    }
}
