/** Promises 12 to 14: overrides, bridge, same. */
public final class OverridesTest {
    private static final int UNKNOWN = CallCourt.UNKNOWN, OUTSIDE = CallCourt.OUTSIDE, NONE = CallCourt.NONE;

    public static void main(String[] args) {
        throughPackages();
        byKindsAsSeen();
        ownAndStatic();
        bridges();
        bridgesThatAreThere();
        bridgesInOrder();
        noBridges();
        manyBridges();
        same();
        Bench.end();
    }

    /** want has a row for each member: whom it overrides. */
    private static void table(CallCourt x, int[][] want) {
        for (int m = 0; m < want.length; m++) {
            for (int n = 0; n < want[m].length; n++) {
                Bench.due("overrides(" + m + ", " + n + ")", x.overrides(m, n), want[m][n]);
            }
        }
        Bench.due("overrides(behind the last, 0)", x.overrides(want.length, 0), UNKNOWN);
        Bench.due("overrides(0, behind the last)", x.overrides(0, want.length), UNKNOWN);
        Bench.due("overrides(-1, 0)", x.overrides(-1, 0), UNKNOWN);
        Bench.due("overrides(0, -1)", x.overrides(0, -1), UNKNOWN);
    }

    private static void throughPackages() {
        CallCourt x = Bench.court("pack p; class A{none m();} class B:A{open none m();} pack q; class C:B{open none m();}"
            + " class D:A{none m();} class E:D{open none m();} pack p; class F:D{open none m();} loader 1;"
            + " class G:A{none m();} class H:A{near none k();} pack r; class I:H{near none k();}");
        table(x, new int[][] {
            {0, 0, 0, 0, 0, 0, 0, 0, 0},
            {1, 0, 0, 0, 0, 0, 0, 0, 0},
            {1, 1, 0, 0, 0, 0, 0, 0, 0},
            {0, 0, 0, 0, 0, 0, 0, 0, 0},
            {0, 0, 0, 1, 0, 0, 0, 0, 0},
            {1, 0, 0, 0, 0, 0, 0, 0, 0},
            {0, 0, 0, 0, 0, 0, 0, 0, 0},
            {0, 0, 0, 0, 0, 0, 0, 0, 0},
            {0, 0, 0, 0, 0, 0, 0, 1, 0},
        });
    }

    private static void byKindsAsSeen() {
        CallCourt x = Bench.court("class P{} face F<V>{none m(V);} face G<W>:F<W>{none m(W); none m(P,W);}"
            + " class C:G<P>{open none m(P); open none m(G); open none m(P,P); open none k(P);}");
        table(x, new int[][] {
            {0, 0, 0, 0, 0, 0, 0},
            {1, 0, 0, 0, 0, 0, 0},
            {0, 0, 0, 0, 0, 0, 0},
            {1, 1, 0, 0, 0, 0, 0},
            {0, 0, 0, 0, 0, 0, 0},
            {0, 0, 1, 0, 0, 0, 0},
            {0, 0, 0, 0, 0, 0, 0},
        });
    }

    private static void ownAndStatic() {
        CallCourt x = Bench.court("class A{own none m(); static none s(); open none o();} class B:A{own none m();"
            + " static none s(); own none o();} class C:B{open none m(); open static none s(); open none o();}");
        table(x, new int[][] {
            {0, 0, 0, 0, 0, 0, 0, 0, 0},
            {0, 0, 0, 0, 0, 0, 0, 0, 0},
            {0, 0, 0, 0, 0, 0, 0, 0, 0},
            {0, 0, 0, 0, 0, 0, 0, 0, 0},
            {0, 0, 0, 0, 0, 0, 0, 0, 0},
            {0, 0, 0, 0, 0, 0, 0, 0, 0},
            {0, 0, 0, 0, 0, 0, 0, 0, 0},
            {0, 0, 0, 0, 0, 0, 0, 0, 0},
            {0, 0, 1, 0, 0, 0, 0, 0, 0},
        });
    }

    private static void bridgeRow(CallCourt x, int t, int i, int... want) {
        for (int what = 0; what < want.length; what++) {
            Bench.due("bridge(" + t + ", " + i + ", " + what + ")", x.bridge(t, i, what), want[what]);
        }
    }

    private static void bridgeCount(CallCourt x, int t, int want) {
        Bench.due("type(" + t + ", 6)", x.type(t, 6), want);
        Bench.due("bridge(" + t + ", behind the last, 0)", x.bridge(t, want, 0), NONE);
        Bench.due("bridge(" + t + ", -1, 0)", x.bridge(t, -1, 0), NONE);
    }

    private static void bridges() {
        CallCourt x = Bench.court("face E<V>{none m(V);} class A{} class B:A{} face F<V under A>:E<V>{lent none m(V);}"
            + " class X:F<B>{open none m(B);} class Y:X{}");
        bridgeCount(x, 0, 0);
        bridgeCount(x, 3, 1);
        bridgeRow(x, 3, 0, 1, 0, -1, NONE, -2);
        bridgeCount(x, 4, 2);
        bridgeRow(x, 4, 0, 2, 1, 1, NONE, -2);
        bridgeRow(x, 4, 1, 2, 0, -1, NONE, -2);
        bridgeCount(x, 5, 0);
        Bench.due("told(2)", x.told(2), 3);
        Bench.due("bridge(6, 0, 0)", x.bridge(6, 0, 0), UNKNOWN);
        Bench.due("bridge(-1, 9, 9)", x.bridge(-1, 9, 9), UNKNOWN);
        Bench.due("bridge(0, 9, 5): OUTSIDE is first", x.bridge(0, 9, 5), OUTSIDE);
        Bench.due("bridge(3, 0, -1)", x.bridge(3, 0, -1), OUTSIDE);
        CallCourt y = Bench.court("face F<V,W>{W m(V,W);} class A:F<A,F>{open F m(A,F);}");
        bridgeRow(y, 1, 0, 1, 0, -1, -1, -1);
    }

    private static void bridgesThatAreThere() {
        // B's m() to A is one for both A.m and F.m: the first by the order above
        CallCourt x = Bench.court("face F{F m();} face G{F m();} class A:F{open F m();} class B:A,G{open B m();}");
        bridgeCount(x, 3, 1);
        bridgeRow(x, 3, 0, 3, 2, NONE, NONE, 0);
        // X has a member with the kinds and result of the one that it would bridge
        CallCourt y = Bench.court("class P{} class Q{} face F<V under P>{none m(V);}"
            + " class X:F<Q>{open none m(Q); own static none m(P);}");
        bridgeCount(y, 3, 0);
        // unlike result of the member that is there: a bridge is made
        CallCourt z = Bench.court("class P{} class Q{} face F<V under P>{none m(V);}"
            + " class X:F<Q>{open none m(Q); int m(P);}");
        bridgeCount(z, 3, 1);
        bridgeRow(z, 3, 0, 1, 0, 0, NONE, -2);
    }

    private static void bridgesInOrder() {
        // members in order first, then types as they are above, then their members in order
        CallCourt x = Bench.court("face F<V>{none a(V); none b(V);} face G<V>{V c();}"
            + " class A:G<A>,F<A>{open none b(A); open A c(); open none a(A);}");
        bridgeCount(x, 2, 3);
        bridgeRow(x, 2, 0, 3, 1, -1, NONE, -2);
        bridgeRow(x, 2, 1, 4, 2, NONE, NONE, -1);
        bridgeRow(x, 2, 2, 5, 0, -1, NONE, -2);
        CallCourt y = Bench.court("class A{open A m();} class B:A{open B m();} class C:B{open C m();}");
        bridgeCount(y, 2, 2);
        bridgeRow(y, 2, 0, 2, 1, NONE, NONE, 1);
        bridgeRow(y, 2, 1, 2, 0, NONE, NONE, 0);
    }

    private static void noBridges() {
        CallCourt x = Bench.court("class A{open A m(); open static A s(); own A o(); A p();}"
            + " abstract class B:A{open abstract B m(); open static B s(); own B o();} pack q;"
            + " class C:A{C p();} face F{F m();} face G:F{G m();} face H:F{lent H m();}");
        bridgeCount(x, 1, 0);
        bridgeCount(x, 2, 0);
        bridgeCount(x, 4, 0);
        bridgeCount(x, 5, 1);
    }

    /** Twenty-three classes that narrow one result: each has a bridge for each class above it. */
    private static void manyBridges() {
        CallCourt x = Bench.court(Texts.narrowing());
        Bench.due("told(2)", x.told(2), 24 * 23 / 2);
        for (int i = 0; i < 23; i++) {
            bridgeRow(x, 23, i, 23, 22 - i, NONE, NONE, 22 - i);
        }
    }

    private static void same() {
        CallCourt x = Bench.court("class A{} class B of A{} pack p; class C{} loader 1; class D{} class E of D{}"
            + " pack q; pack p; class F of D{} loader 0; class G{}");
        int[][] packages = {{0, 1}, {2, 6}, {3, 4, 5}};
        int[][] nests = {{0, 1}, {2}, {3, 4, 5}, {6}};
        for (int t = 0; t < 7; t++) {
            for (int u = 0; u < 7; u++) {
                Bench.due("same(" + t + ", " + u + ", false)", x.same(t, u, false), inOne(packages, t, u));
                Bench.due("same(" + t + ", " + u + ", true)", x.same(t, u, true), inOne(nests, t, u));
            }
        }
        Bench.due("same(7, 0, true)", x.same(7, 0, true), UNKNOWN);
        Bench.due("same(0, -1, false)", x.same(0, -1, false), UNKNOWN);
    }

    private static int inOne(int[][] sets, int t, int u) {
        for (int[] set : sets) {
            boolean hasT = false;
            boolean hasU = false;
            for (int x : set) {
                hasT |= x == t;
                hasU |= x == u;
            }
            if (hasT) {
                return hasU ? 1 : 0;
            }
        }
        return -1;
    }
}
