/** Promises 12 to 14: overrides, bridge, same. */
final class BoundsOfOverrides {
    private static final int UNKNOWN = CallCourt.UNKNOWN, OUTSIDE = CallCourt.OUTSIDE, NONE = CallCourt.NONE;
    private static final int LEAST = Integer.MIN_VALUE, MOST = Integer.MAX_VALUE;

    private BoundsOfOverrides() {
    }

    /** pairs has each m and n with m OVERRIDES n; no other pair does. */
    private static void overrides(String text, int... pairs) {
        CallCourt x = Bench.court(text);
        int count = x.told(1);
        for (int m = 0; m < count; m++) {
            for (int n = 0; n < count; n++) {
                int want = 0;
                for (int i = 0; i + 1 < pairs.length; i += 2) {
                    want = pairs[i] == m && pairs[i + 1] == n ? 1 : want;
                }
                Bench.due("overrides(" + m + ", " + n + ") of " + text, x.overrides(m, n), want);
            }
        }
    }

    // ---- 12 overrides

    @Sentence(promise = 12, says = "m of T OVERRIDES n of S: S is above T;")
    static void ofATypeAbove() {
        overrides("class A{open int m();} class B:A{open int m();} class C:B{open int m();}", 1, 0, 2, 0, 2, 1);
        overrides("class A{open int m();} class B:A{} class C:B{open int m();}", 1, 0);
        overrides("class A{open int m();} class B{open int m();}");
        // a class that has it from above is none of the face's own
        overrides("class A{open int m();} face F{int m();} class C:A,F{}");
        overrides("face F{int m();} face G:F{int m();} class C:G{open int m();}", 1, 0, 2, 0, 2, 1);
    }

    @Sentence(promise = 12, says = "one NAME, kinds alike")
    static void ofOneName() {
        overrides("class A{open int m(); open int k();} class B:A{open int k(); open int n();}", 2, 1);
    }

    @Sentence(promise = 12, says = "kinds alike as T sees them;")
    static void withLikeKindsAsItSeesThem() {
        overrides("class A{open int m(); open int m(int); open int m(int,A); open int m(A,int);}"
            + " class B:A{open int m(int,A); open int m(); open int m(A);}", 4, 2, 5, 0);
        overrides("face F<V>{int m(V);} class A:F<A>{open int m(A); open int m(F);}", 1, 0);
        overrides("face F<V>{int m(V);} class A<W,X>:F<X>{int m(W,X); open int m(X);}", 2, 0);
        // alike once they are erased, but not as it sees them
        overrides("class P{} face F<V under P>{int m(V);} class A<W>:F<W>{open int m(P);}");
        // alike as it sees them, though not as S does
        overrides("face F<V,W>{int m(V,W);} face G<X,Y>:F<Y,X>{int m(Y,X);} class C:G<C,F>{open int m(F,C);}", 1, 0, 2,
            0, 2, 1);
        // the result may be another one
        overrides("class A{open A m();} class B:A{open B m();}", 1, 0);
    }

    @Sentence(promise = 12, says = "neither is own or static;")
    static void neitherOwnNorStatic() {
        overrides("class A{own int a(); open int b(); open static int c();}"
            + " class B:A{own int a(); own int b(); open static int c();}");
        overrides("class A{own int a();} class B:A{open int a();} class C:B{open int a();}", 2, 1);
        overrides("class A{own int a();} class B:A{open static int a();}");
        // an own one does not stand between
        overrides("class A{open int a();} class B:A{own int a();} class C:B{open int a();}", 2, 0);
        overrides("face F{own lent int a(); static int b();} face G:F{lent int a(); static int b();}");
    }

    @Sentence(promise = 12, says = "and n is open or near, or both")
    static void openOrNear() {
        overrides("pack p; class A{open int a(); near int b(); int c();} pack q;"
            + " class B:A{open int a(); near int b(); int c();}", 3, 0,
            4, 1);
        overrides("class A{open int a(); near int b(); int c();} loader 1;"
            + " class B:A{open int a(); open int b(); open int c();}", 3, 0,
            4, 1);
    }

    @Sentence(promise = 12, says = "or both are of one run-time package,")
    static void ofOneRunTimePackage() {
        overrides("class A{int m();} class B:A{int m();}", 1, 0);
        overrides("pack p; class A{int m();} pack q; class B:A{int m();} pack p; class C:B{int m();}", 2, 0);
        overrides("pack p; class A{int m();} loader 1; class B:A{int m();} class C:B{int m();}", 2, 1);
        // no package of two loaders
        overrides("class A{int m();} loader 1; class B:A{open int m();}");
    }

    @Sentence(promise = 12, says = "or m OVERRIDES some o that OVERRIDES n.")
    static void throughOneBetween() {
        overrides("pack p; class A{int m();} class B:A{open int m();} pack q; class C:B{open int m();}", 1, 0, 2, 0, 2,
            1);
        overrides("pack p; class A{int m();} class B:A{near int m();} pack q; class C:B{near int m();} pack r;"
            + " class D:C{open int m();}",
            1, 0, 2, 0, 2, 1, 3, 0, 3, 1, 3, 2);
        // B's has not the access that C would need
        overrides("pack p; class A{int m();} class B:A{int m();} pack q; class C:B{open int m();}", 1, 0);
        // through two: C of B's package, E of D's
        overrides("pack p; class A{int m();} class B:A{int m();} pack q; class C:B{int m();} pack p;"
            + " class D:C{open int m();} pack q; class E:D{open int m();}", 1, 0, 3, 0, 3, 1, 4, 0, 4, 1, 4, 2, 4, 3);
    }

    @Sentence(promise = 12, says = "Whether a member OVERRIDES another one: 1, 0.")
    static void overridesOrNot() {
        overrides("class A{open int m();} class B:A{open int m();}", 1, 0);
        // the highest numbers: members 63, 64, 119
        CallCourt x = Bench.court(Texts.fullLadder());
        int[] sample = {0, 7, 8, 56, 62, 63, 64, 65, 71, 72, 112, 118, 119};
        for (int m : sample) {
            for (int n : sample) {
                Bench.due("overrides(" + m + ", " + n + ")", x.overrides(m, n), n < m && (m - n) % 8 == 0 ? 1 : 0);
            }
        }
    }

    @Sentence(promise = 12, says = "UNKNOWN.")
    static void overridesUnknown() {
        CallCourt x = Bench.court("class A{open int m();} class B:A{open int m();}");
        for (int m : new int[] {-1, 2, LEAST, MOST}) {
            Bench.due("overrides(" + m + ", 0)", x.overrides(m, 0), UNKNOWN);
            Bench.due("overrides(1, " + m + ")", x.overrides(1, m), UNKNOWN);
            Bench.due("overrides(" + m + ", " + m + ")", x.overrides(m, m), UNKNOWN);
        }
    }

    // ---- 13 bridge

    /** Each row: the member that it is to, the one for which it was made, two kinds, the result. */
    private static void bridges(CallCourt x, int t, int[]... rows) {
        Bench.due("type(" + t + ", 6)", x.type(t, 6), rows.length);
        for (int i = 0; i < rows.length; i++) {
            for (int what = 0; what < 5; what++) {
                Bench.due("bridge(" + t + ", " + i + ", " + what + ")", x.bridge(t, i, what), rows[i][what]);
            }
        }
    }

    private static int[] row(int... numbers) {
        return numbers;
    }

    @Sentence(promise = 13, says = "BRIDGES of a type: for each of its members that is not abstract, static, own, in"
        + " order,")
    static void forEachMemberWithABody() {
        CallCourt x = Bench.court("face F<V>{none a(V); none b(V); none c(V);}"
            + " abstract class A:F<A>{open none c(A); open abstract none b(A); open none a(A);}"
            + " face G:F<G>{lent none b(G); none a(G);}");
        bridges(x, 1, row(3, 2, -1, NONE, -2), row(5, 0, -1, NONE, -2));
        bridges(x, 2, row(6, 1, -1, NONE, -2));
        CallCourt y = Bench.court("class A{open static A s(); own A o();} class B:A{open static B s(); own B o();}");
        bridges(y, 1);
    }

    @Sentence(promise = 13, says = "and each that it OVERRIDES (types as they are above it, members in order)")
    static void forEachThatItOverrides() {
        CallCourt x = Bench.court("class P{} face F<V,W>{none m(V); none m(W,W);} face G<V under P>{none m(V);}"
            + " class A:G<A>,F<A,A>{open none m(A);} class B:F<B,B>,G<B>{open none m(B);}");
        bridges(x, 3, row(3, 2, 0, NONE, -2), row(3, 0, -1, NONE, -2));
        bridges(x, 4, row(4, 0, -1, NONE, -2), row(4, 2, 0, NONE, -2));
        // as they are above it, though the last one is told behind the first
        CallCourt v = Bench.court("class P{} class Q{} face F<V>{none m(V);} face G<V under P>{none m(V);}"
            + " face H<V under Q>{none m(V);} class A:F<A>,H<A>,G<A>{open none m(A);}");
        bridges(v, 5, row(3, 0, -1, NONE, -2), row(3, 2, 1, NONE, -2), row(3, 1, 0, NONE, -2));
        // not for what it does not override
        CallCourt y = Bench.court("class A{A m();} pack p; class B:A{B m();}");
        bridges(y, 1);
        // one member for two of one type
        CallCourt z = Bench.court("class P{} class Q{} face F<V under P,W under Q>{none m(V); none m(W);}"
            + " class A:F<A,A>{open none m(A);}");
        bridges(z, 3, row(2, 0, 0, NONE, -2), row(2, 1, 1, NONE, -2));
    }

    @Sentence(promise = 13, says = "whose ERASED kinds, result are not its own ERASED:")
    static void onlyWhereErasedIsUnlike() {
        CallCourt x = Bench.court("class P{} face F<V under P>{V m(V); V k(); none j(V,int);}"
            + " class A:F<P>{open P m(P); open P k(); open none j(P,int);}"
            + " class B:F<B>{open B m(B); open B k(); open none j(B,int);}");
        bridges(x, 2);
        bridges(x, 3, row(6, 0, 0, NONE, 0), row(7, 1, NONE, NONE, 0), row(8, 2, 0, -3, -2));
        // a VAR of its own with the like bound
        CallCourt y = Bench.court("class P{} face F<V under P>{V m(V);} class A<W under P>:F<W>{open W m(W);}"
            + " class B<W>:F<W>{open W m(W);}");
        bridges(y, 2);
        bridges(y, 3, row(2, 0, 0, NONE, 0));
        // the result alone
        CallCourt z = Bench.court("class A{open A m(int,A);} class B:A{open B m(int,A);} class C:B{open B m(int,A);}");
        bridges(z, 1, row(1, 0, -3, 0, 0));
        bridges(z, 2, row(2, 0, -3, 0, 0));
    }

    @Sentence(promise = 13, says = "a BRIDGE with that NAME, these kinds and result, its access, to it;")
    static void whatABridgeHas() {
        CallCourt x = Bench.court("pack p; class A{near A m(); A k();} class B:A{open B m(); near B k();} pack q;"
            + " class C{}");
        bridges(x, 1, row(2, 0, NONE, NONE, 0), row(3, 1, NONE, NONE, 0));
        Bench.due("lookup(1, 0): its NAME and result are A's", x.lookup(1, 0), 1002);
        Bench.due("lookup(1, 1)", x.lookup(1, 1), 1003);
        // the access is not that of the one for which it was made
        Bench.due("may(2, 0, 0, 0)", x.may(2, 0, 0, 0), 0);
        Bench.due("may(2, 1, 0, 1)", x.may(2, 1, 0, 1), 1);
        Bench.due("may(2, 1, 1, 1)", x.may(2, 1, 1, 1), 0);
        CallCourt y = Bench.court("pack p; class A{A k();} class B:A{near B k();} pack q; class C:B{}");
        Bench.due("may(2, 0, 0, 2): A's is of another package", y.may(2, 0, 0, 2), 0);
        Bench.due("may(2, 1, 0, 2): the BRIDGE is near", y.may(2, 1, 0, 2), 1);
    }

    @Sentence(promise = 13, says = "not if the type has a member or BRIDGE of that NAME with these kinds and result.")
    static void notIfThereIsOne() {
        String told = "class P{} class Q{} face F<V under P>{none m(V);} ";
        // a member, whatever it is
        bridges(Bench.court(told + "class X:F<Q>{open none m(Q); own none m(P);}"), 3);
        bridges(Bench.court(told + "class X:F<Q>{own static none m(P); open none m(Q);}"), 3);
        // of another result, NAME, number of kinds
        bridges(Bench.court(told + "class X:F<Q>{open none m(Q); int m(P); none k(P); none m(P,P);}"), 3, row(1, 0, 0,
            NONE, -2));
        // a BRIDGE
        bridges(Bench.court(told + "face G<V under P>{none m(V);} class X:F<Q>,G<Q>{open none m(Q);}"), 4, row(2, 0, 0,
            NONE, -2));
        bridges(Bench.court(told + "face G<V under Q>{none m(V);} class X:F<X>,G<X>{open none m(X);}"), 4, row(2, 0, 0,
            NONE, -2),
            row(2, 1, 1, NONE, -2));
        // a BRIDGE to another member
        CallCourt x = Bench.court("class P{} class Q{} class R{} face F<V under P>{none m(V);}"
            + " face G<V under P>{none m(V);} class X:F<Q>,G<R>{open none m(R); open none m(Q);}");
        bridges(x, 5, row(2, 1, 0, NONE, -2));
        // one that a class above has does not count
        CallCourt y = Bench.court("class A{open A m();} class B:A{open B m();} class C:B{open B m();}");
        bridges(y, 2, row(2, 0, NONE, NONE, 0));
    }

    @Sentence(promise = 13, says = "Of BRIDGE i of a type: 0 the member that it is to,")
    static void theMemberThatItIsTo() {
        CallCourt x = Bench.court("class A{open A a(); open A b();} class B:A{open B b(); open B a();}"
            + " class C:B{open C a();}");
        Bench.due("bridge(1, 0, 0)", x.bridge(1, 0, 0), 2);
        Bench.due("bridge(1, 1, 0)", x.bridge(1, 1, 0), 3);
        Bench.due("bridge(2, 0, 0)", x.bridge(2, 0, 0), 4);
        Bench.due("bridge(2, 1, 0)", x.bridge(2, 1, 0), 4);
    }

    @Sentence(promise = 13, says = "1 the first one for which it was made,")
    static void theFirstForWhichItWasMade() {
        CallCourt x = Bench.court("face F{F m();} face G{F m();} class A:F,G{open A m();} class B:G,F{open B m();}"
            + " face H:F{F m();} class C:H{open C m();}");
        bridges(x, 2, row(2, 0, NONE, NONE, 0));
        bridges(x, 3, row(3, 1, NONE, NONE, 0));
        bridges(x, 5, row(5, 4, NONE, NONE, 0));
    }

    @Sentence(promise = 13, says = "2, 3 its kinds (NONE: it has no such),")
    static void theKindsOfABridge() {
        CallCourt x = Bench.court("class P{} face F<V,W under P>{none a(); none b(V); none c(V,W); none d(W,int); V"
            + " e();} class A:F<A,A>{open none a(); open none b(A); open none c(A,A); open none d(A,int); open A"
            + " e();}");
        bridges(x, 2, row(6, 1, -1, NONE, -2), row(7, 2, -1, 0, -2), row(8, 3, 0, -3, -2), row(9, 4, NONE, NONE, -1));
    }

    @Sentence(promise = 13, says = "4 its result.")
    static void theResultOfABridge() {
        CallCourt x = Bench.court("class P{} face F<V,W under P>{V a(); W b(); none c(V); int d(V); P e(V);}"
            + " class A:P,F<A,A>{open A a(); open A b(); open none c(A); open int d(A); open A e(A);}");
        int[] want = {-1, 0, -2, -3, 0};
        for (int i = 0; i < want.length; i++) {
            Bench.due("bridge(2, " + i + ", 4)", x.bridge(2, i, 4), want[i]);
        }
    }

    @Sentence(promise = 13, says = "UNKNOWN;")
    static void bridgeUnknown() {
        CallCourt x = Bench.court("class A{open A m();} class B:A{open B m();}");
        for (int t : new int[] {-1, 2, LEAST, MOST}) {
            Bench.due("bridge(" + t + ", 0, 0)", x.bridge(t, 0, 0), UNKNOWN);
        }
        Bench.due("bridge(1, 0, 0)", x.bridge(1, 0, 0), 1);
    }

    @Sentence(promise = 13, says = "OUTSIDE;")
    static void bridgeOutside() {
        CallCourt x = Bench.court("class A{open A m();} class B:A{open B m();}");
        for (int what : new int[] {-1, 5, LEAST, MOST}) {
            Bench.due("bridge(1, 0, " + what + ")", x.bridge(1, 0, what), OUTSIDE);
            Bench.due("bridge(0, 0, " + what + ")", x.bridge(0, 0, what), OUTSIDE);
        }
    }

    @Sentence(promise = 13, says = "NONE: it has no BRIDGE i.")
    static void noBridgeI() {
        CallCourt x = Bench.court("class A{open A m();} class B:A{open B m();} class C:B{open C m();} class D:C{}");
        for (int i : new int[] {-1, 2, LEAST, MOST}) {
            Bench.due("bridge(2, " + i + ", 0)", x.bridge(2, i, 0), NONE);
        }
        Bench.due("bridge(2, 1, 0)", x.bridge(2, 1, 0), 2);
        // not its neighbours' ones
        Bench.due("bridge(1, 1, 0)", x.bridge(1, 1, 0), NONE);
        Bench.due("bridge(2, -1, 1)", x.bridge(2, -1, 1), NONE);
        Bench.due("bridge(0, 0, 0)", x.bridge(0, 0, 0), NONE);
        Bench.due("bridge(3, 0, 0)", x.bridge(3, 0, 0), NONE);
        // the most: the last of 24 has 23
        CallCourt y = Bench.court(Texts.narrowing());
        Bench.due("bridge(23, 22, 1)", y.bridge(23, 22, 1), 0);
        Bench.due("bridge(23, 23, 1)", y.bridge(23, 23, 1), NONE);
    }

    @Sentence(promise = 13, says = "METHODS of a type: its members, then its BRIDGES.")
    static void membersAndBridgesAreMethods() {
        CallCourt x = Bench.court("class A{open A m(); open int k();} class B:A{open B m();}");
        Bench.due("lookup(1, 2): a member", x.lookup(1, 2), 2);
        Bench.due("lookup(1, 0): a BRIDGE", x.lookup(1, 0), 1002);
        Bench.due("lookup(1, 1): neither, so A's", x.lookup(1, 1), 1);
    }

    // ---- 14 same

    @Sentence(promise = 14, says = "RUN-TIME PACKAGES are alike if package and loader are.")
    static void packageAndLoader() {
        // types 0 to 5: no package in loaders 0 and 1, p in 1 and 0, q in 0, p in 0 again
        CallCourt x = Bench.court("class A{} loader 1; class B{} pack p; class C{} loader 0; class D{} pack q;"
            + " class E{} pack p; class F{}");
        for (int t = 0; t < 6; t++) {
            for (int u = 0; u < 6; u++) {
                boolean alike = t == u || t == 3 && u == 5 || t == 5 && u == 3;
                Bench.due("same(" + t + ", " + u + ", false)", x.same(t, u, false), alike ? 1 : 0);
            }
        }
    }

    @Sentence(promise = 14, says = "Whether two types are of one run-time package (nest = false),")
    static void sameRunTimePackage() {
        CallCourt x = Bench.court("class A{} face B{} pack p; class C{} class D of C{} class E:A{}");
        Bench.due("same(0, 1, false): no package", x.same(0, 1, false), 1);
        Bench.due("same(1, 2, false)", x.same(1, 2, false), 0);
        Bench.due("same(2, 4, false): not of one nest", x.same(2, 4, false), 1);
        Bench.due("same(0, 4, false): under it", x.same(0, 4, false), 0);
        Bench.due("same(4, 4, false)", x.same(4, 4, false), 1);
    }

    @Sentence(promise = 14, says = "of one nest (true): 1, 0.")
    static void sameNest() {
        CallCourt x = Bench.court("class A{} class B of A{} class C of A{} class D{} class E:A{} class F of D{}");
        int[] nest = {0, 0, 0, 3, 4, 3};
        for (int t = 0; t < 6; t++) {
            for (int u = 0; u < 6; u++) {
                Bench.due("same(" + t + ", " + u + ", true)", x.same(t, u, true), nest[t] == nest[u] ? 1 : 0);
            }
        }
    }

    @Sentence(promise = 14, says = "UNKNOWN.")
    static void sameUnknown() {
        CallCourt x = Bench.court("class A{} class B{}");
        for (int t : new int[] {-1, 2, LEAST, MOST}) {
            for (boolean nest : new boolean[] {false, true}) {
                Bench.due("same(" + t + ", 0, " + nest + ")", x.same(t, 0, nest), UNKNOWN);
                Bench.due("same(0, " + t + ", " + nest + ")", x.same(0, t, nest), UNKNOWN);
                Bench.due("same(" + t + ", " + t + ", " + nest + ")", x.same(t, t, nest), UNKNOWN);
            }
        }
    }
}
