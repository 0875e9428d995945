/** Promises 15 to 21: lookup, specific, may, rule, hops, conflicts, tally. */
public final class CallsTest {
    private static final int UNKNOWN = CallCourt.UNKNOWN, OUTSIDE = CallCourt.OUTSIDE, NONE = CallCourt.NONE;

    public static void main(String[] args) {
        lookupInClasses();
        lookupInFaces();
        lookupOfBridges();
        specific();
        mayByPackage();
        mayByNest();
        mayNear();
        refusals();
        selectThroughPackages();
        selectInFaces();
        ownRunsItself();
        ruleOfSorts();
        ruleOfTheOneAbove();
        ruleOfReceivers();
        ruleOfStatic();
        hopsOfBridges();
        endlessBridges();
        conflictsAndTally();
        Bench.end();
    }

    private static void lookup(CallCourt x, int t, int m, int want) {
        Bench.due("lookup(" + t + ", " + m + ")", x.lookup(t, m), want);
    }

    private static void specific(CallCourt x, int t, int m, int... want) {
        for (int i = 0; i < want.length; i++) {
            Bench.due("specific(" + t + ", " + m + ", " + i + ")", x.specific(t, m, i), want[i]);
        }
        Bench.due("specific(" + t + ", " + m + ", behind the last)", x.specific(t, m, want.length), NONE);
        Bench.due("specific(" + t + ", " + m + ", -1)", x.specific(t, m, -1), NONE);
    }

    private static void may(CallCourt x, int caller, int named, int m, int receiver, int want) {
        Bench.due("may(" + caller + ", " + named + ", " + m + ", " + receiver + ")",
            x.may(caller, named, m, receiver), want);
    }

    /** use: sort, caller, named, member, receiver. */
    private static void rule(CallCourt x, int[] use, int want, int hops) {
        String told = "(" + use[0] + ", " + use[1] + ", " + use[2] + ", " + use[3] + ", " + use[4] + ")";
        Bench.due("rule" + told, x.rule(use[0], use[1], use[2], use[3], use[4]), want);
        Bench.due("hops() behind rule" + told, x.hops(), hops);
    }

    private static int[] use(int sort, int caller, int named, int m, int receiver) {
        return new int[] {sort, caller, named, m, receiver};
    }

    private static void lookupInClasses() {
        CallCourt x = Bench.court("class A{own int m(); static int s(); int m(A);} class B:A{} class C:B{int m(int);}"
            + " class D{none m();} face F{int m();} class E:B,F{}");
        lookup(x, 0, 0, 0);
        lookup(x, 1, 0, 0);
        lookup(x, 2, 0, 0);
        lookup(x, 2, 1, 1);
        lookup(x, 2, 2, 2);
        lookup(x, 2, 3, 3);
        lookup(x, 1, 3, -1);
        lookup(x, 3, 0, -1);
        lookup(x, 0, 4, -1);
        lookup(x, 4, 0, 5);
        // a class ahead of a face, though what it has is own
        lookup(x, 5, 5, 0);
        Bench.due("lookup(6, 0)", x.lookup(6, 0), UNKNOWN);
        Bench.due("lookup(0, 6)", x.lookup(0, 6), UNKNOWN);
        Bench.due("lookup(-1, -1)", x.lookup(-1, -1), UNKNOWN);
    }

    private static void lookupInFaces() {
        CallCourt x = Bench.court("face A{int m(); static int s(); own lent int o();} face B:A{int m();} face C{lent int m();}"
            + " class D:A,B{} class E:A,C{} face G{lent int m();} class H:A,C,G{} face I:C{int m();} class J:C,I{}"
            + " face K:A,C{} face L:A{static int m(int);}");
        // none of the SPECIFIC ones has a body: the first of all by the order above
        lookup(x, 3, 0, 0);
        // just one body
        lookup(x, 4, 0, 4);
        // two bodies: the first of all
        lookup(x, 6, 0, 0);
        // C's body is not SPECIFIC: I's is; the first of all is C's
        lookup(x, 8, 0, 4);
        lookup(x, 9, 0, 4);
        // a face finds its own static and own ones, but none above it
        lookup(x, 0, 1, 1);
        lookup(x, 0, 2, 2);
        lookup(x, 1, 1, -1);
        lookup(x, 3, 1, -1);
        lookup(x, 3, 2, -1);
        lookup(x, 10, 0, 0);
    }

    private static void lookupOfBridges() {
        CallCourt x = Bench.court("face E<V>{none m(V);} class A{} class B:A{} face F<V under A>:E<V>{lent none m(V);}"
            + " class X:F<B>{open none m(B);} class Y:X{}");
        lookup(x, 0, 0, 0);
        lookup(x, 3, 0, 1001);
        lookup(x, 3, 1, 1);
        lookup(x, 4, 0, 1002);
        lookup(x, 4, 1, 1002);
        lookup(x, 4, 2, 2);
        lookup(x, 5, 0, 1002);
        lookup(x, 3, 2, -1);
        lookup(x, 0, 1, -1);
        specific(x, 5, 0, 1001);
        specific(x, 5, 1, 1);
        specific(x, 5, 2);
    }

    private static void specific() {
        CallCourt x = Bench.court("face A{int m(); static int s(); own lent int o();} face B:A{int m();} face C{lent int m();}"
            + " class D:A,B,C{open int m();} face E:B,C{} face F:E{lent int m();}"
            + " class G:D,A{}");
        specific(x, 3, 0, 3, 4);
        specific(x, 4, 0, 3, 4);
        specific(x, 1, 0, 3);
        specific(x, 5, 0, 6);
        specific(x, 0, 1, 1);
        specific(x, 0, 2, 2);
        specific(x, 1, 1);
        specific(x, 1, 2);
        specific(x, 6, 0, 3, 4);
        Bench.due("specific(7, 0, 0)", x.specific(7, 0, 0), UNKNOWN);
        Bench.due("specific(0, 7, 0)", x.specific(0, 7, 0), UNKNOWN);
        Bench.due("specific(-1, -1, -1)", x.specific(-1, -1, -1), UNKNOWN);
    }

    private static void mayByPackage() {
        CallCourt x = Bench.court("class A{int m(); open int o();} class B{} pack p; class C:A{} loader 1; class D:A{}"
            + " loader 0; face F{int m();}");
        may(x, 1, 0, 0, 0, 1);
        may(x, 0, 2, 0, 2, 1);
        may(x, 2, 2, 0, 2, 0);
        may(x, 3, 0, 0, 3, 0);
        may(x, 3, 0, 1, 3, 1);
        may(x, 3, 4, 2, 3, 1);
        may(x, 3, 1, 0, 3, -1);
        may(x, 5, 0, 0, 0, UNKNOWN);
        may(x, 0, 5, 0, 0, UNKNOWN);
        may(x, 0, 0, 3, 0, UNKNOWN);
        may(x, 0, 0, 0, 5, UNKNOWN);
        may(x, 0, 0, 0, -1, UNKNOWN);
    }

    private static void mayByNest() {
        CallCourt x = Bench.court("class A{own int m();} class B of A{own int k();} class C of A{} class D:A{}");
        may(x, 0, 0, 0, 0, 1);
        may(x, 1, 0, 0, 0, 1);
        may(x, 2, 1, 1, 1, 1);
        may(x, 0, 1, 1, 1, 1);
        may(x, 3, 0, 0, 3, 0);
        may(x, 3, 3, 0, 3, 0);
        may(x, 0, 3, 0, 3, 1);
    }

    private static void mayNear() {
        CallCourt x = Bench.court("pack p; class A{near none m(); near static none s();} class N{} pack q; class B:A{}"
            + " class C:B{} class D{} class E:A{}");
        may(x, 1, 0, 0, 0, 1);
        may(x, 2, 2, 0, 2, 1);
        may(x, 2, 0, 0, 2, 1);
        may(x, 2, 0, 0, 0, 0);
        may(x, 2, 3, 0, 3, 1);
        may(x, 2, 2, 0, 3, 1);
        may(x, 3, 2, 0, 3, 1);
        may(x, 3, 2, 0, 2, 0);
        may(x, 4, 0, 0, 0, 0);
        may(x, 2, 5, 0, 2, 0);
        may(x, 2, 5, 0, 5, 0);
        may(x, 2, 5, 1, 2, 1);
        may(x, 2, 0, 1, 4, 1);
        may(x, 4, 0, 1, 4, 0);
    }

    private static void refusals() {
        CallCourt x = Bench.court("class A{open A m();} class B:A{open B m();}");
        rule(x, use(0, 0, 0, 0, 1), 1, 1);
        // what is refused leaves hops() as it was
        rule(x, use(0, 2, 0, 0, 1), UNKNOWN, 1);
        rule(x, use(0, 0, 2, 0, 1), UNKNOWN, 1);
        rule(x, use(0, 0, 0, 2, 1), UNKNOWN, 1);
        rule(x, use(0, 0, 0, 0, 2), UNKNOWN, 1);
        rule(x, use(0, 0, 0, 0, -1), UNKNOWN, 1);
        rule(x, use(4, 0, 0, 0, 1), OUTSIDE, 1);
        rule(x, use(-1, 0, 0, 0, 1), OUTSIDE, 1);
        rule(x, use(4, 0, 0, 0, 2), UNKNOWN, 1);
        rule(x, use(-1, -1, 0, 0, 0), UNKNOWN, 1);
        Bench.due("tally runs no rule()", x.tally(1, 0), 2);
        Bench.due("hops() behind tally", x.hops(), 1);
        Bench.due("compile is no rule()", Bench.compile(x, "class A{}"), 1);
        Bench.due("hops() behind compile", x.hops(), 1);
    }

    private static void selectThroughPackages() {
        CallCourt x = Bench.court("pack p; class A{none m();} class B:A{open none m();} pack q; class C:B{open none m();}"
            + " class D:A{none m();} class E:D{open none m();} pack p; class F:D{open none m();} pack q;"
            + " class G:F{open none m();}");
        rule(x, use(0, 0, 0, 0, 0), 0, 0);
        rule(x, use(0, 0, 0, 0, 1), 1, 0);
        rule(x, use(0, 0, 0, 0, 2), 2, 0);
        rule(x, use(0, 0, 0, 0, 3), 0, 0);
        rule(x, use(0, 0, 0, 0, 4), 0, 0);
        rule(x, use(0, 0, 0, 0, 5), 5, 0);
        rule(x, use(0, 0, 0, 0, 6), 6, 0);
        rule(x, use(0, 3, 3, 3, 4), 4, 0);
        // F of another package cannot replace D's; G, of D's package, can
        rule(x, use(0, 3, 3, 3, 5), 3, 0);
        rule(x, use(0, 3, 3, 3, 6), 6, 0);
    }

    private static void selectInFaces() {
        CallCourt x = Bench.court("face A{int m();} face B{lent int m();} face C{lent int m();} class D{open int m();}"
            + " class E:A{} class F:A,B{} class G:A,B,C{} class H:D,A,B,C{} class I{own int m();} class J:I,B{}"
            + " abstract class K:A{open abstract int m();} class L:K,B{} class M:L{open int m();} face N:B{int m();}"
            + " class O:B,N{} class P:B,C,N{}");
        // no body at all
        rule(x, use(1, 0, 0, 0, 4), -4, 0);
        rule(x, use(1, 0, 0, 0, 5), 1, 0);
        // two bodies
        rule(x, use(1, 0, 0, 0, 6), -3, 0);
        // a class's one goes ahead of faces
        rule(x, use(1, 0, 0, 0, 7), 3, 0);
        rule(x, use(1, 2, 2, 2, 7), 3, 0);
        // an own one of a class is passed over
        rule(x, use(1, 1, 1, 1, 9), 1, 0);
        // an abstract one of a class hides a face's body
        rule(x, use(1, 0, 0, 0, 11), -4, 0);
        rule(x, use(0, 11, 11, 0, 11), -4, 0);
        rule(x, use(1, 1, 1, 1, 12), 6, 0);
        // the body is not SPECIFIC
        rule(x, use(1, 1, 1, 1, 14), -4, 0);
        rule(x, use(1, 1, 1, 1, 15), 2, 0);
    }

    private static void ownRunsItself() {
        CallCourt x = Bench.court("class A{own int m();} class B:A{open int m();} class C of A:B{}"
            + " face F{own lent int k();} class D:F{open int k();}");
        rule(x, use(0, 0, 0, 0, 1), 0, 0);
        rule(x, use(0, 0, 1, 0, 1), 1, 0);
        rule(x, use(0, 2, 0, 0, 2), 0, 0);
        rule(x, use(0, 1, 0, 0, 1), -2, 0);
        rule(x, use(1, 3, 3, 2, 4), 2, 0);
        rule(x, use(1, 4, 3, 2, 4), -2, 0);
    }

    private static void ruleOfSorts() {
        CallCourt x = Bench.court("class A{open int m(); open static int s(); own int o();} face F{lent int f(); static int t();}"
            + " class B:A,F{} class C{}");
        rule(x, use(0, 2, 0, 0, 2), 0, 0);
        rule(x, use(0, 2, 1, 3, 2), -5, 0);
        rule(x, use(1, 2, 0, 0, 2), -5, 0);
        rule(x, use(1, 2, 2, 3, 2), -5, 0);
        rule(x, use(1, 2, 1, 3, 2), 3, 0);
        rule(x, use(0, 2, 2, 3, 2), 3, 0);
        rule(x, use(0, 2, 3, 0, 2), -1, 0);
        rule(x, use(1, 2, 1, 0, 2), -1, 0);
        rule(x, use(0, 2, 0, 2, 2), -2, 0);
        rule(x, use(0, 2, 0, 1, 2), -5, 0);
        rule(x, use(1, 2, 1, 4, 2), -5, 0);
        rule(x, use(3, 2, 0, 0, 2), -5, 0);
        // what is wrong first is told: sort of the named type, nothing found, not allowed, sort of the found one
        rule(x, use(0, 3, 1, 2, 1), -5, 0);
        rule(x, use(0, 3, 3, 2, 1), -1, 0);
        rule(x, use(0, 3, 0, 2, 1), -2, 0);
        rule(x, use(0, 3, 0, 1, 1), -5, 0);
        rule(x, use(0, 3, 0, 0, 1), -6, 0);
        rule(x, use(3, 3, 0, 2, 1), -2, 0);
    }

    private static void ruleOfTheOneAbove() {
        CallCourt x = Bench.court("pack p; class A{open none m(); open none k();} class B:A{open none m();}"
            + " class C:B{open none m(); open none z();} class D:C{} face I{lent none z(); none y(); static none w();}"
            + " class J:C,I{} class K:J{} abstract class L:A{open abstract none m();} class M:L{open none m();}");
        rule(x, use(2, 2, 1, 2, 2), 2, 0);
        // the class next above the caller, whatever class above is named
        rule(x, use(2, 2, 0, 0, 2), 2, 0);
        rule(x, use(2, 2, 0, 1, 3), 1, 0);
        rule(x, use(2, 3, 0, 0, 3), 3, 0);
        // the caller is the named type, or not under it
        rule(x, use(2, 2, 2, 0, 2), -6, 0);
        rule(x, use(2, 1, 2, 0, 2), -6, 0);
        // the receiver is not under the caller
        rule(x, use(2, 2, 1, 0, 1), -6, 0);
        rule(x, use(2, 2, 1, 0, 7), -6, 0);
        // a face that is a REF of the caller, and one that is not
        rule(x, use(2, 5, 4, 5, 5), 5, 0);
        rule(x, use(2, 5, 4, 5, 6), 5, 0);
        rule(x, use(2, 6, 4, 5, 6), -5, 0);
        rule(x, use(2, 5, 4, 6, 5), -4, 0);
        rule(x, use(2, 5, 4, 7, 5), -5, 0);
        // an abstract one of the class above
        rule(x, use(2, 8, 7, 0, 8), -4, 0);
        rule(x, use(2, 8, 7, 1, 8), 1, 0);
    }

    private static void ruleOfReceivers() {
        CallCourt x = Bench.court("abstract class A{open none m();} face F{lent none f();} class B:A,F{} abstract class C:B{}"
            + " class D{}");
        rule(x, use(0, 4, 0, 0, 2), 0, 0);
        rule(x, use(0, 4, 0, 0, 0), -6, 0);
        rule(x, use(0, 4, 0, 0, 1), -6, 0);
        rule(x, use(0, 4, 0, 0, 3), -6, 0);
        rule(x, use(0, 4, 0, 0, 4), -6, 0);
        rule(x, use(1, 4, 1, 1, 2), 1, 0);
        rule(x, use(1, 4, 1, 1, 1), -6, 0);
        rule(x, use(1, 4, 1, 1, 4), -6, 0);
    }

    private static void ruleOfStatic() {
        CallCourt x = Bench.court("pack p; class A{near static none s(); near none m(); static none k();} pack q; class B:A{}"
            + " class C{} face F{static none f(); own static none g();} face G:F{}");
        rule(x, use(3, 1, 0, 0, 99), 0, 0);
        rule(x, use(3, 1, 1, 0, -1), 0, 0);
        rule(x, use(3, 2, 0, 0, 0), -2, 0);
        // the caller stands for the receiver: it may have m, which is not static
        rule(x, use(3, 1, 0, 1, 99), -5, 0);
        rule(x, use(3, 1, 0, 2, 99), -2, 0);
        rule(x, use(3, 0, 1, 2, 99), 2, 0);
        rule(x, use(3, 1, 3, 3, 99), 3, 0);
        rule(x, use(3, 1, 4, 3, 99), -1, 0);
        rule(x, use(3, 1, 3, 4, 99), -2, 0);
        rule(x, use(3, 3, 3, 4, 99), 4, 0);
    }

    private static void hopsOfBridges() {
        CallCourt x = Bench.court("face E<V>{none m(V);} class A{} class B:A{} face F<V under A>:E<V>{lent none m(V);}"
            + " face G<V under A>{none m(V);} class X:G<B>{open none m(B);} class Y:X,F<B>{} class Z:Y{open none m(B);}"
            + " class W:F<A>{}");
        // E's is F's BRIDGE to F's, which is X's BRIDGE to X's
        rule(x, use(1, 0, 0, 0, 6), 3, 2);
        rule(x, use(1, 3, 3, 1, 6), 3, 1);
        rule(x, use(0, 5, 5, 3, 6), 3, 0);
        // Z has a BRIDGE to its own at once
        rule(x, use(1, 0, 0, 0, 7), 4, 1);
        rule(x, use(0, 6, 6, 2, 7), 4, 1);
        rule(x, use(1, 0, 0, 0, 8), 1, 1);
        rule(x, use(1, 3, 3, 1, 8), 1, 0);
        // the one above, a BRIDGE: the receiver's own runs
        rule(x, use(2, 7, 6, 2, 7), 4, 1);
        rule(x, use(2, 7, 6, 3, 7), 3, 0);
        Bench.due("rule() that finds nothing", x.rule(0, 1, 1, 0, 1), -1);
        Bench.due("hops() behind it", x.hops(), 0);
        // behind a BRIDGE there may be no body, or two
        CallCourt y = Bench.court("face E<V>{none m(V);} class A{} face F<V under A>:E<V>{lent none m(V);}"
            + " abstract class K{open abstract none m(A);} class L:K,F<A>{} face P{lent none m(A);} class Q:F<A>,P{}");
        rule(y, use(1, 0, 0, 0, 4), -4, 1);
        rule(y, use(1, 0, 0, 0, 6), -3, 1);
    }

    /** Two faces with a BRIDGE each to what the other one's BRIDGE is for, their own ones hidden by abstract ones. */
    private static void endlessBridges() {
        CallCourt x = Bench.court("class P{} class Q{} face R<V under P>{none m(V);} face S<V under Q>{none m(V);}"
            + " face F:S<P>{lent none m(P);} face G:R<Q>{lent none m(Q);} face H:F{none m(P);} face I:G{none m(Q);}"
            + " class C:H,I{}");
        rule(x, use(1, 2, 2, 0, 8), -7, 8);
        rule(x, use(1, 3, 3, 1, 8), -7, 8);
        Bench.due("tally(8, -7)", x.tally(8, -7), 6);
        Bench.due("tally(8, 0)", x.tally(8, 0), 0);
        Bench.due("conflicts(8)", x.conflicts(8), 0);
    }

    private static void tallies(CallCourt x, int t, int... want) {
        for (int outcome = -7; outcome <= 0; outcome++) {
            Bench.due("tally(" + t + ", " + outcome + ")", x.tally(t, outcome), want[outcome + 7]);
        }
    }

    private static void conflictsAndTally() {
        CallCourt x = Bench.court("face A{lent none m(); none k(); static none s();} face B{lent none m(); none k();}"
            + " class C:A,B{own none p(); static none q();} abstract class D:A,B{} class E:D{open none m();}"
            + " class F:D{open none k();} class G{}");
        Bench.due("conflicts(2)", x.conflicts(2), 2);
        tallies(x, 2, 0, 0, 0, 2, 2, 0, 0, 3);
        Bench.due("conflicts(4)", x.conflicts(4), 0);
        tallies(x, 4, 0, 0, 0, 2, 0, 0, 0, 4);
        Bench.due("conflicts(5)", x.conflicts(5), 2);
        tallies(x, 5, 0, 0, 0, 0, 2, 0, 0, 4);
        tallies(x, 6, 0, 0, 0, 0, 0, 0, 0, 0);
        Bench.due("conflicts(0)", x.conflicts(0), NONE);
        Bench.due("conflicts(3)", x.conflicts(3), NONE);
        Bench.due("conflicts(7)", x.conflicts(7), UNKNOWN);
        Bench.due("conflicts(-1)", x.conflicts(-1), UNKNOWN);
        Bench.due("tally(0, 0)", x.tally(0, 0), NONE);
        Bench.due("tally(3, -3)", x.tally(3, -3), NONE);
        Bench.due("tally(0, 1): OUTSIDE is first", x.tally(0, 1), OUTSIDE);
        Bench.due("tally(2, -8)", x.tally(2, -8), OUTSIDE);
        Bench.due("tally(7, 1): UNKNOWN is first", x.tally(7, 1), UNKNOWN);
    }
}
