/** Promises 15 to 17: lookup, specific, may. */
final class BoundsOfLookup {
    private static final int UNKNOWN = CallCourt.UNKNOWN, NONE = CallCourt.NONE;
    private static final int LEAST = Integer.MIN_VALUE, MOST = Integer.MAX_VALUE;

    private BoundsOfLookup() {
    }

    private static void lookup(CallCourt x, int t, int m, int want) {
        Bench.due("lookup(" + t + ", " + m + ")", x.lookup(t, m), want);
    }

    private static void specific(CallCourt x, int t, int m, int... want) {
        for (int i = 0; i < want.length; i++) {
            Bench.due("specific(" + t + ", " + m + ", " + i + ")", x.specific(t, m, i), want[i]);
        }
        Bench.due("specific(" + t + ", " + m + ", behind the last)", x.specific(t, m, want.length), NONE);
    }

    private static void may(CallCourt x, int caller, int named, int m, int receiver, int want) {
        Bench.due("may(" + caller + ", " + named + ", " + m + ", " + receiver + ")", x.may(caller, named, m, receiver),
            want);
    }

    // ---- 15 lookup

    @Sentence(promise = 15, says = "CALLS name a type and a member (which gives NAME, ERASED kinds and result alone:"
        + " what is LOOKED for).")
    static void whatAMemberGives() {
        CallCourt x = Bench.court("class P{} class A{own static int m(P); int k(P); none n(P); int o(P,P); int p(int);}"
            + " class B<V under P>{open int m(V); open int n(V); int o(V); int p(V);}");
        // another type's member, whatever its access and form, by NAME, ERASED kinds and result
        lookup(x, 2, 0, 5);
        lookup(x, 1, 5, 0);
        lookup(x, 2, 1, -1);
        lookup(x, 2, 2, -1);
        lookup(x, 1, 6, -1);
        lookup(x, 2, 3, -1);
        lookup(x, 1, 7, -1);
        lookup(x, 1, 8, -1);
        lookup(x, 2, 4, -1);
        lookup(x, 0, 0, -1);
    }

    @Sentence(promise = 15, says = "LOOKUP in a class: it, then its class above, and so on: the first with such a"
        + " METHOD (it has one at most);")
    static void upwardThroughClasses() {
        CallCourt x = Bench.court("face F{lent int m();} class A{open int m(); own int k(); static int s();}"
            + " class B:A{} class C:B,F{open int m();} class D:C{own int k();} class E:B,F{}");
        lookup(x, 1, 0, 1);
        lookup(x, 2, 1, 1);
        lookup(x, 3, 1, 4);
        lookup(x, 4, 1, 4);
        // own and static ones too
        lookup(x, 3, 2, 2);
        lookup(x, 4, 2, 5);
        lookup(x, 4, 3, 3);
        // a class far above goes ahead of a face
        lookup(x, 5, 0, 1);
        // not downward
        CallCourt y = Bench.court("class A{} class B:A{int m();}");
        lookup(y, 0, 0, -1);
        // an abstract one is found
        CallCourt z = Bench.court("face F{lent int m();} abstract class A{abstract int m();} class B:A,F{}");
        lookup(z, 2, 0, 1);
        // through all of 24 classes
        CallCourt v = Bench.court(Texts.ladder("int m();", ""));
        lookup(v, 23, 0, 0);
        lookup(v, 0, 0, 0);
    }

    @Sentence(promise = 15, says = "if just one of these is not abstract: that;")
    static void theOnlyBody() {
        CallCourt x = Bench.court("face A{int m();} face B{lent int m();} face C{lent int m();} class D:A,B{}"
            + " class E:B,A{} class F:A,B,C{} face G:A,B{} class H:A{} face I:B{int m();} class J:A,I{}"
            + " class K:A,I,C{}");
        lookup(x, 3, 0, 1);
        lookup(x, 4, 0, 1);
        lookup(x, 6, 0, 1);
        // none at all, and two
        lookup(x, 7, 0, 0);
        lookup(x, 5, 0, 0);
        // B's body is not SPECIFIC
        lookup(x, 9, 0, 0);
        lookup(x, 10, 0, 2);
        // the body is member 0, of the last face
        CallCourt y = Bench.court("face A{lent int m();} face B{int m();} class C:B,A{} face D:B,A{}");
        lookup(y, 2, 1, 0);
        lookup(y, 3, 1, 0);
    }

    @Sentence(promise = 15, says = "else the first of all such METHODS by the order above;")
    static void theFirstOfAll() {
        CallCourt x = Bench.court("face A{lent int m();} face B:A{int m();} face C:A{int m();} face D{lent int m();}"
            + " face E{lent int m();} class F:B,C{} class G:C,B{} class H:A,B,C{} class I:D,E{} class J:E,D{}"
            + " face K:E,D{}");
        lookup(x, 5, 0, 1);
        lookup(x, 6, 0, 2);
        // A's is not SPECIFIC, but the first
        lookup(x, 7, 0, 0);
        // two bodies
        lookup(x, 8, 3, 3);
        lookup(x, 9, 3, 4);
        lookup(x, 10, 3, 4);
        // own and static ones are none of these
        CallCourt y = Bench.court("face A{static int m(); own lent int k();} face B{int m(); int k();} class C:A,B{}");
        lookup(y, 2, 2, 2);
        lookup(y, 2, 3, 3);
    }

    @Sentence(promise = 15, says = "else nothing.")
    static void nothing() {
        CallCourt x = Bench.court("class A{} face B{static int m(); own lent int k();} class C:A,B{} face D:B{}"
            + " class E{int z();}");
        lookup(x, 2, 0, -1);
        lookup(x, 2, 1, -1);
        lookup(x, 3, 0, -1);
        lookup(x, 3, 1, -1);
        lookup(x, 0, 2, -1);
        lookup(x, 1, 2, -1);
    }

    @Sentence(promise = 15, says = "LOOKUP in a type of what a member gives: the member's number,")
    static void lookupTellsTheMember() {
        CallCourt x = Bench.court(Texts.fullTypes(14) + "class Y{} class Z:T13{}");
        lookup(x, 0, 0, 0);
        lookup(x, 13, 111, 111);
        lookup(x, 13, 7, 111);
        lookup(x, 15, 0, 104);
    }

    @Sentence(promise = 15, says = "or 1000 and the number of the one that the BRIDGE found is to;")
    static void lookupTellsTheBridge() {
        CallCourt x = Bench.court("class A{open A m();} class B:A{open B m();} class C:B{} face F<V>{none k(V);}"
            + " face G:F<A>{lent none k(A);} class H:G{}");
        lookup(x, 0, 0, 0);
        lookup(x, 1, 0, 1001);
        lookup(x, 1, 1, 1);
        lookup(x, 2, 0, 1001);
        lookup(x, 4, 2, 1003);
        lookup(x, 5, 2, 1003);
        lookup(x, 5, 3, 3);
        // the member is another one than the BRIDGE's number: B's first BRIDGE is to member 9
        CallCourt y = Bench.court("class Z{" + Texts.membersOf(8) + "} class A{open A m();} class B:A{open B m();}");
        lookup(y, 2, 8, 1009);
    }

    @Sentence(promise = 15, says = "-1: nothing.")
    static void lookupFindsNothing() {
        CallCourt x = Bench.court("class A{} class B{int m();}");
        lookup(x, 0, 0, -1);
        lookup(x, 1, 0, 0);
    }

    @Sentence(promise = 15, says = "UNKNOWN.")
    static void lookupUnknown() {
        CallCourt x = Bench.court("class A{int m(); int k();} class B{}");
        for (int n : new int[] {-1, 2, LEAST, MOST}) {
            lookup(x, n, 0, UNKNOWN);
            lookup(x, 0, n, UNKNOWN);
            lookup(x, n, n, UNKNOWN);
        }
    }

    // ---- 16 specific

    @Sentence(promise = 16, says = "else, as in a face, among the faces above: the SPECIFIC ones: METHODS looked for,"
        + " neither own nor static, of faces above it")
    static void methodsOfFacesAbove() {
        CallCourt x = Bench.court("face A{int m(); static int s(); own lent int o();}"
            + " face B{lent int m(); int s(); int o();} class C:A,B{open int m();} class D:C{} face E:B,A{}"
            + " class F{open int m();}");
        specific(x, 2, 0, 0, 3);
        specific(x, 3, 0, 0, 3);
        specific(x, 4, 0, 3, 0);
        // neither own nor static
        specific(x, 2, 1, 4);
        specific(x, 2, 2, 5);
        // a class has none of its own
        specific(x, 5, 0);
        // a BRIDGE is a METHOD
        CallCourt y = Bench.court("face F<V>{none m(V);} face G:F<G>{lent none m(G);} class C:G{}");
        specific(y, 2, 0, 1001);
        specific(y, 2, 1, 1);
    }

    @Sentence(promise = 16, says = "(of a face: itself, too: then it alone if it has one, whatever it is),")
    static void aFaceItself() {
        CallCourt x = Bench.court("face A{lent int m(); static int s(); own lent int o(); int a(); own static int b();}"
            + " face B:A{int m();} face C:A{} face D:A{static int s();}");
        for (int m = 0; m < 5; m++) {
            specific(x, 0, m, m);
            lookup(x, 0, m, m);
        }
        specific(x, 1, 0, 5);
        lookup(x, 1, 0, 5);
        // what it has not itself is found above it, but neither own nor static ones
        specific(x, 2, 0, 0);
        specific(x, 2, 1);
        specific(x, 2, 2);
        specific(x, 2, 3, 3);
        specific(x, 2, 4);
        specific(x, 3, 1, 6);
        lookup(x, 3, 1, 6);
        // a BRIDGE of its own
        CallCourt y = Bench.court("face F<V>{none m(V);} face H{lent none m(H);} face G:F<G>,H{lent none m(G);}");
        specific(y, 2, 0, 1002);
        lookup(y, 2, 0, 1002);
    }

    @Sentence(promise = 16, says = "no other such of a face under theirs;")
    static void noneOfAFaceUnderTheirs() {
        CallCourt x = Bench.court("face A{lent int m();} face B:A{int m();} face C:A{} face D{lent int m();}"
            + " face E:C{lent int m();} class F:A,B{} class G:C,D{} class H:B,E,D{} class I:A,D,E{} face J:B{}"
            + " class K:J,A{}");
        specific(x, 5, 0, 1);
        specific(x, 6, 0, 0, 2);
        specific(x, 7, 0, 1, 3, 2);
        specific(x, 8, 0, 2, 3);
        specific(x, 10, 0, 1);
        // an own or static one of a face under it is no such
        CallCourt y = Bench.court("face A{int m();} face B:A{own lent int m();} class C:B{}");
        specific(y, 2, 0, 0);
        lookup(y, 1, 0, 1);
    }

    @Sentence(promise = 16, says = "The i-th SPECIFIC one in a type (by the order above), as lookup() tells.")
    static void theIthSpecific() {
        CallCourt x = Bench.court("face A{int m();} face B{int m();} face C{int m();} face D{int m();}"
            + " class E:C,A,D,B{} class F:D,C{} class G:F,B,A{}");
        specific(x, 4, 0, 2, 0, 3, 1);
        specific(x, 5, 0, 3, 2);
        specific(x, 6, 0, 3, 2, 1, 0);
    }

    @Sentence(promise = 16, says = "UNKNOWN;")
    static void specificUnknown() {
        CallCourt x = Bench.court("face A{int m(); int k();} class B:A{}");
        for (int n : new int[] {-1, 2, LEAST, MOST}) {
            Bench.due("specific(" + n + ", 0, 0)", x.specific(n, 0, 0), UNKNOWN);
            Bench.due("specific(0, " + n + ", 0)", x.specific(0, n, 0), UNKNOWN);
        }
        Bench.due("specific(1, 1, 0)", x.specific(1, 1, 0), 1);
    }

    @Sentence(promise = 16, says = "NONE.")
    static void specificNone() {
        CallCourt x = Bench.court("face A{int m(); int k();} class B:A{}");
        for (int i : new int[] {-1, 1, LEAST, MOST}) {
            Bench.due("specific(1, 0, " + i + ")", x.specific(1, 0, i), NONE);
        }
        Bench.due("specific(1, 0, 0)", x.specific(1, 0, 0), 0);
    }

    // ---- 17 may

    @Sentence(promise = 17, says = "MAY a caller have a METHOD found of D, by a named type, with a receiver's type:"
        + " open: yes;")
    static void openToAll() {
        CallCourt x = Bench.court("pack p; class A{open int m(); open static int s();} face F{int k(); static int j();}"
            + " pack q; loader 1; class B{}");
        for (int m = 0; m < 4; m++) {
            for (int receiver = 0; receiver < 3; receiver++) {
                may(x, 2, m < 2 ? 0 : 1, m, receiver, 1);
            }
        }
    }

    @Sentence(promise = 17, says = "own: its nest is D's (nests: the type that of names, or itself);")
    static void ownToItsNest() {
        CallCourt x = Bench.court("class A{own int m();} class B of A{own static int k();} class C of A{} class D:A{}"
            + " class E{} class F of E{} face G{own lent int j();} class H of G{}");
        int[] mayHave = {1, 1, 1, 0, 0, 0, 0, 0};
        for (int caller = 0; caller < 8; caller++) {
            may(x, caller, 0, 0, 0, mayHave[caller]);
            may(x, caller, 1, 1, 1, mayHave[caller]);
            // D of the METHOD, not the named type
            may(x, caller, 3, 0, 3, mayHave[caller]);
            may(x, caller, 6, 2, 6, caller >= 6 ? 1 : 0);
        }
    }

    @Sentence(promise = 17, says = "none: the run-time package is D's;")
    static void noneToItsPackage() {
        CallCourt x = Bench.court("pack p; class A{int m(); static int s();} class B{} pack q; class C:A{} class D{}"
            + " pack p; loader 1; class E:A{} loader 0; class F{}");
        int[] mayHave = {1, 1, 0, 0, 0, 1};
        for (int caller = 0; caller < 6; caller++) {
            may(x, caller, 0, 0, 0, mayHave[caller]);
            may(x, caller, 0, 1, 0, mayHave[caller]);
            // by a named type of the caller's package
            may(x, caller, 2, 0, 2, mayHave[caller]);
        }
    }

    @Sentence(promise = 17, says = "near: that, or the caller is under D,")
    static void nearToThoseUnder() {
        CallCourt x = Bench.court("pack p; class A{near int m();} class B{} pack q; class C:A{} class D:C{} class E{}"
            + " loader 1; pack p; class F:A{} class G{}");
        // of one run-time package: whatever the named type and the receiver
        may(x, 1, 0, 0, 0, 1);
        may(x, 1, 2, 0, 4, 1);
        may(x, 0, 0, 0, 4, 1);
        // under it
        may(x, 2, 2, 0, 2, 1);
        may(x, 3, 3, 0, 3, 1);
        may(x, 5, 5, 0, 5, 1);
        // neither
        may(x, 4, 0, 0, 4, 0);
        may(x, 6, 0, 0, 6, 0);
        // under the named type, but not under D
        CallCourt y = Bench.court("pack p; class A{} class B:A{near int m();} pack q; class C:A{} class D:B{}");
        may(y, 2, 1, 0, 2, 0);
        may(y, 3, 1, 0, 3, 1);
        may(y, 2, 0, 0, 2, -1);
    }

    @Sentence(promise = 17, says = "and (if it is not static) the named type is the caller's, under it or above it,")
    static void theNamedTypeIsKin() {
        CallCourt x = Bench.court("pack p; class A{near int m(); near static int s();} pack q; class B:A{} class C:B{}"
            + " class D:C{} class E:A{} class F:D{}");
        // the caller is C, the receiver is F: A, B above; C itself; D, F under; E is no kin
        int[] mayHave = {1, 1, 1, 1, 0, 1};
        for (int named = 0; named < 6; named++) {
            may(x, 2, named, 0, 5, mayHave[named]);
            may(x, 2, named, 1, 5, 1);
        }
    }

    @Sentence(promise = 17, says = "and the receiver's type is under the caller.")
    static void theReceiverIsUnderTheCaller() {
        CallCourt x = Bench.court("pack p; class A{near int m(); near static int s();} pack q; class B:A{} class C:B{}"
            + " class D:C{} class E:A{} class F:D{} class G{}");
        int[] mayHave = {0, 0, 1, 1, 0, 1, 0};
        for (int receiver = 0; receiver < 7; receiver++) {
            may(x, 2, 0, 0, receiver, mayHave[receiver]);
            may(x, 2, 0, 1, receiver, 1);
        }
    }

    @Sentence(promise = 17, says = "Whether a caller MAY have what LOOKUP finds in a named type: 1, 0;")
    static void whatLookupFinds() {
        CallCourt x = Bench.court("class A{open int m();} class B:A{own int m();} class C:B{} class D{}");
        may(x, 3, 0, 0, 0, 1);
        // B's own one is found, whichever member is named
        may(x, 3, 1, 0, 1, 0);
        may(x, 3, 2, 0, 2, 0);
        may(x, 3, 0, 1, 0, 1);
        may(x, 1, 2, 0, 2, 1);
    }

    @Sentence(promise = 17, says = "-1: nothing.")
    static void mayFindsNothing() {
        CallCourt x = Bench.court("class A{own int m();} class B{} face F{static int s();} face G:F{}");
        may(x, 0, 1, 0, 0, -1);
        may(x, 1, 1, 0, 1, -1);
        may(x, 0, 3, 1, 0, -1);
        may(x, 0, 0, 0, 0, 1);
    }

    @Sentence(promise = 17, says = "UNKNOWN.")
    static void mayUnknown() {
        CallCourt x = Bench.court("class A{open int m(); open static int s();} class B:A{}");
        for (int n : new int[] {-1, 2, LEAST, MOST}) {
            may(x, n, 0, 0, 0, UNKNOWN);
            may(x, 0, n, 0, 0, UNKNOWN);
            may(x, 0, 0, n, 0, UNKNOWN);
            may(x, 0, 0, 0, n, UNKNOWN);
            may(x, 0, 0, 1, n, UNKNOWN);
        }
    }
}
