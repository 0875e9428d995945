/** Promises 6 to 11 and 22: type, above, under, member, seen, erased, told. */
public final class TypesTest {
    private static final int UNKNOWN = CallCourt.UNKNOWN, OUTSIDE = CallCourt.OUTSIDE, NONE = CallCourt.NONE;

    public static void main(String[] args) {
        types();
        aboveInOrder();
        under();
        members();
        kinds();
        kindsThroughTwoWays();
        told();
        Bench.end();
    }

    private static void row(CallCourt x, int t, int... want) {
        for (int what = 0; what < want.length; what++) {
            Bench.due("type(" + t + ", " + what + ")", x.type(t, what), want[what]);
        }
    }

    private static void types() {
        CallCourt x = Bench.court("face F<V>{V m(V);} pack p; class A{} loader 1; class B<V,W under A>:A,F<A>{open A m(A);"
            + " int k();} pack q; abstract class C{} pack p; class D of B:B<D,D>{}"
            + " loader 0; class E of A{}");
        // package, loader, what, class above, nest, members, bridges, vars, above, first member
        row(x, 0, 0, 0, 2, NONE, 0, 1, 0, 1, 0, 0);
        row(x, 1, 1, 0, 0, NONE, 1, 0, 0, 0, 0, NONE);
        row(x, 2, 1, 1, 0, 1, 2, 2, 1, 2, 2, 1);
        row(x, 3, 2, 1, 1, NONE, 3, 0, 0, 0, 0, NONE);
        row(x, 4, 1, 1, 0, 2, 2, 0, 0, 0, 3, NONE);
        row(x, 5, 1, 0, 0, NONE, 1, 0, 0, 0, 0, NONE);
        Bench.due("type(0, 10)", x.type(0, 10), OUTSIDE);
        Bench.due("type(0, -1)", x.type(0, -1), OUTSIDE);
        Bench.due("type(6, 0)", x.type(6, 0), UNKNOWN);
        Bench.due("type(-1, 0)", x.type(-1, 0), UNKNOWN);
        Bench.due("type(6, 99): UNKNOWN is first", x.type(6, 99), UNKNOWN);
        Bench.due("type(min, min)", x.type(Integer.MIN_VALUE, Integer.MIN_VALUE), UNKNOWN);
        CallCourt y = Bench.court("face F{} class A:F{}");
        Bench.due("a face is no class above", y.type(1, 3), NONE);
    }

    private static void aboveInOrder() {
        // X's REFS are A, C, D; C's are B, A; D's is B
        CallCourt x = Bench.court("face A{} face B{} face C:B,A{} face D:B{} class X:D,C,A{} class Y:X,B{}");
        order(x, 0);
        order(x, 2, 1, 0);
        order(x, 4, 3, 1, 2, 0);
        order(x, 5, 4, 3, 1, 2, 0);
        Bench.due("above(6, 0)", x.above(6, 0), UNKNOWN);
        Bench.due("above(-1, -1)", x.above(-1, -1), UNKNOWN);
        CallCourt y = Bench.court("face A{} face B:A{} class X:A,B{}");
        order(y, 2, 0, 1);
    }

    private static void order(CallCourt x, int t, int... want) {
        for (int i = 0; i < want.length; i++) {
            Bench.due("above(" + t + ", " + i + ")", x.above(t, i), want[i]);
        }
        Bench.due("above(" + t + ", behind the last)", x.above(t, want.length), NONE);
        Bench.due("above(" + t + ", -1)", x.above(t, -1), NONE);
        Bench.due("above(" + t + ", most)", x.above(t, Integer.MAX_VALUE), NONE);
        Bench.due("type(" + t + ", 8)", x.type(t, 8), want.length);
    }

    private static void under() {
        CallCourt x = Bench.court("face A{} face B:A{} class C:B{} class D:C{} class E{}");
        int[][] want = {{1, 0, 0, 0, 0}, {1, 1, 0, 0, 0}, {1, 1, 1, 0, 0}, {1, 1, 1, 1, 0}, {0, 0, 0, 0, 1}};
        for (int t = 0; t < 5; t++) {
            for (int of = 0; of < 5; of++) {
                Bench.due("under(" + t + ", " + of + ")", x.under(t, of), want[t][of]);
            }
        }
        Bench.due("under(5, 0)", x.under(5, 0), UNKNOWN);
        Bench.due("under(0, 5)", x.under(0, 5), UNKNOWN);
        Bench.due("under(-1, 0)", x.under(-1, 0), UNKNOWN);
        Bench.due("under(0, -1): ANY is no type of the text", x.under(0, -1), UNKNOWN);
    }

    private static void memberRow(CallCourt x, int m, int... want) {
        for (int what = 0; what < want.length; what++) {
            Bench.due("member(" + m + ", " + what + ")", x.member(m, what), want[what]);
        }
    }

    private static void members() {
        CallCourt x = Bench.court("face F{int a(); open lent int b(int); own static int c(int,int); own lent int d();"
            + " abstract none e();} class G{} abstract class A{int a(); near int b(); own int c(); open abstract int d();"
            + " static int e(); near static F f(F);}");
        memberRow(x, 0, 0, 3, 2, 0);
        memberRow(x, 1, 0, 3, 3, 1);
        memberRow(x, 2, 0, 0, 1, 2);
        memberRow(x, 3, 0, 0, 3, 0);
        memberRow(x, 4, 0, 3, 2, 0);
        memberRow(x, 5, 2, 1, 0, 0);
        memberRow(x, 6, 2, 2, 0, 0);
        memberRow(x, 7, 2, 0, 0, 0);
        memberRow(x, 8, 2, 3, 2, 0);
        memberRow(x, 9, 2, 1, 1, 0);
        memberRow(x, 10, 2, 2, 1, 1);
        Bench.due("member(11, 0)", x.member(11, 0), UNKNOWN);
        Bench.due("member(-1, 9)", x.member(-1, 9), UNKNOWN);
        Bench.due("member(0, 4)", x.member(0, 4), OUTSIDE);
        Bench.due("member(0, -1)", x.member(0, -1), OUTSIDE);
    }

    private static void seenRow(CallCourt x, int t, int m, int first, int second, int result) {
        Bench.due("seen(" + t + ", " + m + ", 0)", x.seen(t, m, 0), first);
        Bench.due("seen(" + t + ", " + m + ", 1)", x.seen(t, m, 1), second);
        Bench.due("seen(" + t + ", " + m + ", 2)", x.seen(t, m, 2), result);
    }

    private static void erasedRow(CallCourt x, int m, int first, int second, int result) {
        Bench.due("erased(" + m + ", 0)", x.erased(m, 0), first);
        Bench.due("erased(" + m + ", 1)", x.erased(m, 1), second);
        Bench.due("erased(" + m + ", 2)", x.erased(m, 2), result);
    }

    private static void kinds() {
        CallCourt x = Bench.court("class A{} face F<V,W under A>{W m(V,W); none k(int); A n(A,F);}"
            + " face G<X>:F<A,X>{X g();} face H<Y,Z under F>:G<Z>{} class K:H<A,K>{open K own1(K);}");
        seenRow(x, 1, 0, 100, 101, 101);
        seenRow(x, 2, 0, 0, 100, 100);
        seenRow(x, 3, 0, 0, 101, 101);
        seenRow(x, 4, 0, 0, 4, 4);
        seenRow(x, 4, 1, -3, NONE, -2);
        seenRow(x, 4, 2, 0, 1, 0);
        seenRow(x, 3, 3, NONE, NONE, 101);
        seenRow(x, 1, 3, NONE, NONE, NONE);
        seenRow(x, 0, 0, NONE, NONE, NONE);
        seenRow(x, 4, 4, 4, NONE, 4);
        erasedRow(x, 0, -1, 0, 0);
        erasedRow(x, 1, -3, NONE, -2);
        erasedRow(x, 2, 0, 1, 0);
        erasedRow(x, 3, NONE, NONE, -1);
        erasedRow(x, 4, 4, NONE, 4);
        Bench.due("seen(0, 0, 3)", x.seen(0, 0, 3), OUTSIDE);
        Bench.due("seen(0, 0, -1)", x.seen(0, 0, -1), OUTSIDE);
        Bench.due("seen(5, 0, 9)", x.seen(5, 0, 9), UNKNOWN);
        Bench.due("seen(0, 5, 0)", x.seen(0, 5, 0), UNKNOWN);
        Bench.due("seen(-1, 0, 0)", x.seen(-1, 0, 0), UNKNOWN);
        Bench.due("seen(0, -1, 0)", x.seen(0, -1, 0), UNKNOWN);
        Bench.due("erased(5, 0)", x.erased(5, 0), UNKNOWN);
        Bench.due("erased(-1, 9)", x.erased(-1, 9), UNKNOWN);
        Bench.due("erased(0, 3)", x.erased(0, 3), OUTSIDE);
        Bench.due("erased(0, -1)", x.erased(0, -1), OUTSIDE);
    }

    private static void kindsThroughTwoWays() {
        CallCourt x = Bench.court("face F<V>{V m();} face G<W>:F<W>{} class A<P,Q>:G<Q>,F<Q>{} class B<R>:A<B,R>{}"
            + " class C:B<F>{}");
        seenRow(x, 2, 0, NONE, NONE, 101);
        seenRow(x, 3, 0, NONE, NONE, 100);
        seenRow(x, 4, 0, NONE, NONE, 0);
        CallCourt y = Bench.court("class V{} class A<V>{V m(V);} class B<W under V>:A<W>{open V k(W);}");
        seenRow(y, 1, 0, 100, NONE, 100);
        seenRow(y, 2, 1, 100, NONE, 0);
        erasedRow(y, 1, 0, NONE, 0);
    }

    private static void told() {
        CallCourt x = Bench.court("pack p; class A{open A m();} pack q; class B:A{open B m(); int k();} pack p;"
            + " class C:B{open C m();}");
        int[] want = {3, 4, 3, 2, 0};
        for (int what = 0; what < want.length; what++) {
            Bench.due("told(" + what + ")", x.told(what), want[what]);
        }
        Bench.feed(x, "abc");
        Bench.due("told(4)", x.told(4), 3);
        Bench.due("told(5)", x.told(5), OUTSIDE);
        Bench.due("told(-1)", x.told(-1), OUTSIDE);
    }
}
