/** Promises 6 to 11: type, above, under, member, seen, erased. */
final class BoundsOfTypes {
    private static final int UNKNOWN = CallCourt.UNKNOWN, OUTSIDE = CallCourt.OUTSIDE, NONE = CallCourt.NONE;
    private static final int LEAST = Integer.MIN_VALUE, MOST = Integer.MAX_VALUE;

    private BoundsOfTypes() {
    }

    /** want has the answers of type(t, what) for t from 0 on. */
    private static void types(CallCourt x, int what, int... want) {
        for (int t = 0; t < want.length; t++) {
            Bench.due("type(" + t + ", " + what + ")", x.type(t, what), want[t]);
        }
    }

    // ---- 6 type

    @Sentence(promise = 6, says = "pack and loader hold for the types behind them (no package and loader 0 at first);")
    static void packAndLoaderHold() {
        CallCourt x = Bench.court("class A{} face B{} pack p; class C{} class D{} loader 2; class E{} pack q; class F{}"
            + " loader 0; class G{} pack p; loader 1;");
        types(x, 0, 0, 0, 1, 1, 1, 2, 2);
        types(x, 1, 0, 0, 0, 0, 2, 2, 0);
        Bench.compile(x, "class A{}");
        types(x, 0, 0);
        types(x, 1, 0);
    }

    @Sentence(promise = 6, says = "Types are numbered from 0 on, members from 0 on (through all types), as they are"
        + " told.")
    static void numbersFrom0On() {
        CallCourt x = Bench.court("face A{int m(); int k();} class B{} class C{none m();} abstract class D{}"
            + " class E{int m(int);}");
        types(x, 2, 2, 0, 0, 1, 0);
        int[] typeOf = {0, 0, 2, 4};
        for (int m = 0; m < 4; m++) {
            Bench.due("member(" + m + ", 0)", x.member(m, 0), typeOf[m]);
        }
        CallCourt full = Bench.court(Texts.fullTypes(15));
        Bench.due("member(119, 0)", full.member(119, 0), 14);
        Bench.due("member(120, 0)", full.member(120, 0), UNKNOWN);
        Bench.due("type(23, 2)", Bench.court(Texts.types(24)).type(23, 2), 0);
    }

    @Sentence(promise = 6, says = "Of a type: 0 its package's number (0: no package; then as they come in the text),")
    static void packageNumbers() {
        types(Bench.court("class A{} pack q; class B{} pack p; class C{} pack q; class D{} pack r; class E{}"), 0, 0,
            1, 2, 1, 3);
        types(Bench.court("pack a; class A{}"), 0, 1);
        types(Bench.court("pack p; class A{} loader 1; class B{} pack P; class C{} pack pp; class D{}"), 0, 1, 1, 2, 3);
    }

    @Sentence(promise = 6, says = "1 its loader,")
    static void loaders() {
        types(Bench.court("class A{} loader 2; class B{} loader 1; class C{} loader 0; class D{} loader 1; face E{}"),
            1, 0, 2, 1, 0,
            1);
    }

    @Sentence(promise = 6, says = "2 what it is (0 a class, 1 an abstract one, 2 a face),")
    static void whatItIs() {
        types(Bench.court("face A{} abstract class B{} class C{} class D:B{} abstract class E:C{} face F:A{}"), 2, 2,
            1, 0, 0, 1, 2);
    }

    @Sentence(promise = 6, says = "3 the class above (NONE),")
    static void theClassAbove() {
        types(Bench.court("class A{} face F{} class B:A,F{} class C:B{} class D:F{} face G:F{} abstract class E:A{}"),
            3, NONE, NONE, 0,
            2, NONE, NONE, 0);
    }

    @Sentence(promise = 6, says = "4 its nest's type,")
    static void theNest() {
        types(Bench.court("class A{} class B of A{} class C:B{} class D of C{} face F{} class E of F{}"), 4, 0, 0, 2,
            2, 4, 4);
    }

    @Sentence(promise = 6, says = "5 how many members,")
    static void howManyMembers() {
        types(Bench.court("class A{} class B{int m();} class C:B{} face F{" + Texts.membersOf(8) + "}"), 5, 0, 1, 0, 8);
    }

    @Sentence(promise = 6, says = "6 BRIDGES,")
    static void howManyBridges() {
        types(Bench.court("class A{open A m(); open A k();} class B:A{open B m();} class C:B{open C m(); open C k();}"
            + " class D:C{}"), 6,
            0, 1, 3, 0);
    }

    @Sentence(promise = 6, says = "7 VARS,")
    static void howManyVars() {
        types(Bench.court("class A{} class B<V>{} face C<V,W under A>{} class D:B<A>{}"), 7, 0, 1, 2, 0);
    }

    @Sentence(promise = 6, says = "8 types above it,")
    static void howManyAbove() {
        types(Bench.court("face A{} face B:A{} face C:A{} class D:B,C,A{} class E:D{}"), 8, 0, 1, 1, 3, 4);
        Bench.due("type(23, 8)", Bench.court(Texts.ladder("", "")).type(23, 8), 23);
    }

    @Sentence(promise = 6, says = "9 its first member's number (NONE).")
    static void theFirstMember() {
        types(Bench.court("class A{} class B{int m(); int k();} class C:B{} face D{int m();}"), 9, NONE, 0, NONE, 2);
    }

    @Sentence(promise = 6, says = "UNKNOWN;")
    static void typeUnknown() {
        CallCourt x = Bench.court("class A{} class B{}");
        for (int t : new int[] {-1, 2, 24, LEAST, MOST}) {
            Bench.due("type(" + t + ", 0)", x.type(t, 0), UNKNOWN);
        }
        CallCourt full = Bench.court(Texts.types(24));
        Bench.due("type(23, 1) of 24", full.type(23, 1), 0);
        Bench.due("type(24, 1) of 24", full.type(24, 1), UNKNOWN);
    }

    @Sentence(promise = 6, says = "OUTSIDE.")
    static void typeOutside() {
        CallCourt x = Bench.court("class A{} class B{}");
        for (int what : new int[] {-1, 10, LEAST, MOST}) {
            Bench.due("type(1, " + what + ")", x.type(1, what), OUTSIDE);
        }
        Bench.due("type(1, 9)", x.type(1, 9), NONE);
    }

    // ---- 7 above

    private static void above(CallCourt x, int t, int... want) {
        for (int i = 0; i < want.length; i++) {
            Bench.due("above(" + t + ", " + i + ")", x.above(t, i), want[i]);
        }
        Bench.due("above(" + t + ", behind the last)", x.above(t, want.length), NONE);
    }

    @Sentence(promise = 7, says = "ABOVE a type are its REFS in order, each followed at once by those above it,")
    static void refsAndThoseAboveThem() {
        CallCourt x = Bench.court("face A{} face B{} face C:A{} face D:B{} class E:D,C{} class F:E{} class G:F,B{}");
        above(x, 0);
        above(x, 2, 0);
        above(x, 4, 3, 1, 2, 0);
        above(x, 5, 4, 3, 1, 2, 0);
        above(x, 6, 5, 4, 3, 1, 2, 0);
    }

    @Sentence(promise = 7, says = "each type once, where it is first.")
    static void eachTypeOnce() {
        CallCourt x = Bench.court("face A{} face B:A{} face C:A{} class D:A,B,C{} class E:D,C,A{} face F:C,B{}");
        above(x, 3, 0, 1, 2);
        above(x, 4, 3, 0, 1, 2);
        above(x, 5, 2, 0, 1);
    }

    @Sentence(promise = 7, says = "The i-th type above; NONE.")
    static void theIthAbove() {
        CallCourt x = Bench.court(Texts.ladder("", ""));
        for (int i = 0; i < 23; i++) {
            Bench.due("above(23, " + i + ")", x.above(23, i), 22 - i);
        }
        for (int i : new int[] {-1, 23, 24, LEAST, MOST}) {
            Bench.due("above(23, " + i + ")", x.above(23, i), NONE);
        }
        Bench.due("above(0, 0)", x.above(0, 0), NONE);
        Bench.due("above(1, 1)", x.above(1, 1), NONE);
    }

    @Sentence(promise = 7, says = "UNKNOWN.")
    static void aboveUnknown() {
        CallCourt x = Bench.court("class A{} class B:A{}");
        for (int t : new int[] {-1, 2, LEAST, MOST}) {
            Bench.due("above(" + t + ", 0)", x.above(t, 0), UNKNOWN);
        }
    }

    // ---- 8 under

    @Sentence(promise = 8, says = "UNDER it are it and those that it is above.")
    static void itIsUnderItself() {
        CallCourt x = Bench.court("face A{} face B:A{} class C:B{} class D:C{}");
        for (int t = 0; t < 4; t++) {
            for (int of = 0; of < 4; of++) {
                Bench.due("under(" + t + ", " + of + ")", x.under(t, of), of <= t ? 1 : 0);
            }
        }
    }

    @Sentence(promise = 8, says = "Whether a type is under another one (or it): 1, 0.")
    static void underOrNot() {
        CallCourt x = Bench.court("face A{} class B{} class C:B,A{} class D:B{} face E:A{}");
        int[][] want = {{1, 0, 0, 0, 0}, {0, 1, 0, 0, 0}, {1, 1, 1, 0, 0}, {0, 1, 0, 1, 0}, {1, 0, 0, 0, 1}};
        for (int t = 0; t < 5; t++) {
            for (int of = 0; of < 5; of++) {
                Bench.due("under(" + t + ", " + of + ")", x.under(t, of), want[t][of]);
            }
        }
        CallCourt y = Bench.court(Texts.ladder("", ""));
        Bench.due("under(23, 0)", y.under(23, 0), 1);
        Bench.due("under(0, 23)", y.under(0, 23), 0);
    }

    @Sentence(promise = 8, says = "(All are under ANY, -1, that is no type of the text;")
    static void anyIsNoTypeOfTheText() {
        CallCourt x = Bench.court("class A{}");
        Bench.due("under(0, -1)", x.under(0, -1), UNKNOWN);
        Bench.due("under(-1, 0)", x.under(-1, 0), UNKNOWN);
        Bench.due("under(-1, -1)", x.under(-1, -1), UNKNOWN);
    }

    @Sentence(promise = 8, says = "UNKNOWN.")
    static void underUnknown() {
        CallCourt x = Bench.court("class A{} class B{}");
        for (int t : new int[] {-2, 2, 32, 64, LEAST, MOST}) {
            Bench.due("under(" + t + ", 0)", x.under(t, 0), UNKNOWN);
            Bench.due("under(0, " + t + ")", x.under(0, t), UNKNOWN);
            Bench.due("under(" + t + ", " + t + ")", x.under(t, t), UNKNOWN);
        }
    }

    // ---- 9 member

    /** want has the answers of member(m, what) for m from 0 on. */
    private static void members(CallCourt x, int what, int... want) {
        for (int m = 0; m < want.length; m++) {
            Bench.due("member(" + m + ", " + what + ")", x.member(m, what), want[m]);
        }
    }

    @Sentence(promise = 9, says = "In a face what has no access is open;")
    static void openInAFace() {
        members(Bench.court("face F{int a(); static int b(); lent int c(); abstract int d(); open int e();}"
            + " class A{int a();}"), 1, 3,
            3, 3, 3, 3, 1);
    }

    @Sentence(promise = 9, says = "what has no form is abstract.")
    static void abstractInAFace() {
        members(Bench.court("face F{int a(); open int b(); lent int c();} class A{int a();}"
            + " abstract class B{int a();}"), 2, 2, 2, 3, 0,
            0);
    }

    @Sentence(promise = 9, says = "A face's members are open or own.")
    static void openOrOwnInAFace() {
        members(Bench.court("face F{int a(); own static int b(); own lent int c(); open static int d();}"), 1, 3, 0, 0,
            3);
        Texts.wrong(5, "face F{@near lent int m();}");
    }

    @Sentence(promise = 9, says = "Of a member: 0 its type,")
    static void theMembersType() {
        members(Bench.court("class A{} class B{int a(); int b();} class C:B{} face D{int a();}"), 0, 1, 1, 3);
    }

    @Sentence(promise = 9, says = "1 its access (0 own, 1 none, 2 near, 3 open),")
    static void theMembersAccess() {
        members(Bench.court("class A{own int a(); int b(); near int c(); open int d(); own static int e(); static int"
            + " f();}"), 1, 0, 1,
            2, 3, 0, 1);
    }

    @Sentence(promise = 9, says = "2 its form (0 a body, 1 static, 2 abstract, 3 lent),")
    static void theMembersForm() {
        members(Bench.court("abstract class A{int a(); static int b(); abstract int c();}"
            + " face F{lent int d(); static int e(); abstract int f();}"), 2, 0, 1, 2, 3, 1, 2);
    }

    @Sentence(promise = 9, says = "3 how many kinds.")
    static void theMembersKinds() {
        members(Bench.court("class A{int a(); none b(int); A c(A,int); int d(A);}"), 3, 0, 1, 2, 1);
    }

    @Sentence(promise = 9, says = "OUTSIDE.")
    static void memberOutside() {
        CallCourt x = Bench.court("class A{int a(); int b();}");
        for (int what : new int[] {-1, 4, LEAST, MOST}) {
            Bench.due("member(1, " + what + ")", x.member(1, what), OUTSIDE);
        }
        Bench.due("member(1, 3)", x.member(1, 3), 0);
    }

    @Sentence(promise = 9, says = "UNKNOWN;")
    static void memberUnknown() {
        CallCourt x = Bench.court("class A{int a(); int b();}");
        for (int m : new int[] {-1, 2, 120, LEAST, MOST}) {
            Bench.due("member(" + m + ", 0)", x.member(m, 0), UNKNOWN);
        }
        CallCourt full = Bench.court(Texts.fullTypes(15));
        Bench.due("member(119, 3)", full.member(119, 3), 0);
        Bench.due("member(120, 3)", full.member(120, 3), UNKNOWN);
    }

    // ---- 10 seen

    private static void seen(CallCourt x, int t, int m, int first, int second, int result) {
        Bench.due("seen(" + t + ", " + m + ", 0)", x.seen(t, m, 0), first);
        Bench.due("seen(" + t + ", " + m + ", 1)", x.seen(t, m, 1), second);
        Bench.due("seen(" + t + ", " + m + ", 2)", x.seen(t, m, 2), result);
    }

    @Sentence(promise = 10, says = "A NAME of a VAR stands for it in its type, behind its VARS, ahead of a type of that"
        + " NAME;")
    static void aVarAheadOfAType() {
        CallCourt x = Bench.court("class V{} face F<P>{P m(P);} class A<V>:F<V>{open V m(V);} class B{V m(V);}"
            + " class C<C>{C m(C);} class D<W under V,V>{none m(W,V);}");
        seen(x, 2, 0, 100, NONE, 100);
        seen(x, 2, 1, 100, NONE, 100);
        // not in another type
        seen(x, 3, 2, 0, NONE, 0);
        // ahead of its own type
        seen(x, 4, 3, 100, NONE, 100);
        // in its VARS the type is meant
        seen(x, 5, 4, 100, 101, -2);
        Bench.due("erased(4, 0)", x.erased(4, 0), 0);
    }

    @Sentence(promise = 10, says = "A type's arguments AS SEEN from one under it: a type sees its own VARS as they"
        + " are;")
    static void itsOwnVars() {
        CallCourt x = Bench.court("class A{} face F<V,W under A>{W m(V,W); V k(W,V);}");
        seen(x, 1, 0, 100, 101, 101);
        seen(x, 1, 1, 101, 100, 100);
    }

    @Sentence(promise = 10, says = "those of a REF as told there;")
    static void argumentsAsToldThere() {
        CallCourt x = Bench.court("class A{} face F<V,W>{W m(V,W);} class B:F<A,B>{} class C<X,Y>:F<Y,X>{}"
            + " class D<X>:F<X,X>{}");
        seen(x, 2, 0, 0, 2, 2);
        seen(x, 3, 0, 101, 100, 100);
        seen(x, 4, 0, 100, 100, 100);
    }

    @Sentence(promise = 10, says = "those further above as the REF sees them, with the REF's VARS replaced.")
    static void argumentsFurtherAbove() {
        CallCourt x = Bench.court("class A{} face F<V,W>{W m(V,W);} face G<X,Y>:F<Y,X>{} face H<P,Q>:G<Q,A>{}"
            + " class I<Z>:H<A,Z>{} class J:I<J>{} class K<U>:J{}");
        seen(x, 2, 0, 101, 100, 100);
        seen(x, 3, 0, 0, 101, 101);
        seen(x, 4, 0, 0, 100, 100);
        seen(x, 5, 0, 0, 5, 5);
        seen(x, 6, 0, 0, 5, 5);
    }

    @Sentence(promise = 10, says = "A member's kinds, result AS SEEN likewise.")
    static void kindsThatAreNoVars() {
        CallCourt x = Bench.court("face F<V>{int m(F,int); none k(V,F);} class A<W>:F<W>{} class B:A<A>{}");
        seen(x, 2, 0, 0, -3, -3);
        seen(x, 2, 1, 1, 0, -2);
        seen(x, 1, 1, 100, 0, -2);
    }

    @Sentence(promise = 10, says = "KINDS are told as: -3 int, -2 none, -1 ANY, 0 .. 23 a type, 100 and k: VAR k of the"
        + " type that sees.")
    static void howKindsAreTold() {
        CallCourt x = Bench.court(Texts.types(23) + "class Z<V,W>{none m(int,T0); Z k(V,W); T22 j(Z,T1);}");
        seen(x, 23, 0, -3, 0, -2);
        seen(x, 23, 1, 100, 101, 23);
        seen(x, 23, 2, 23, 1, 22);
        Bench.due("erased(1, 0): ANY", x.erased(1, 0), -1);
    }

    @Sentence(promise = 10, says = "KIND k (0, 1; 2: the result) of a member AS SEEN from a type under its own one.")
    static void theKthKind() {
        CallCourt x = Bench.court("class A{none m(int,A);} class B:A{}");
        seen(x, 0, 0, -3, 0, -2);
        seen(x, 1, 0, -3, 0, -2);
    }

    @Sentence(promise = 10, says = "UNKNOWN;")
    static void seenUnknown() {
        CallCourt x = Bench.court("class A{int m(int,int);} class B:A{}");
        for (int n : new int[] {-1, 2, LEAST, MOST}) {
            Bench.due("seen(" + n + ", 0, 0)", x.seen(n, 0, 0), UNKNOWN);
            Bench.due("seen(0, " + n + ", 0)", x.seen(0, n, 0), UNKNOWN);
        }
        Bench.due("seen(0, 1, 0)", x.seen(0, 1, 0), UNKNOWN);
    }

    @Sentence(promise = 10, says = "OUTSIDE: k;")
    static void seenOutside() {
        CallCourt x = Bench.court("class A{int m(int,int);}");
        for (int k : new int[] {-1, 3, LEAST, MOST}) {
            Bench.due("seen(0, 0, " + k + ")", x.seen(0, 0, k), OUTSIDE);
        }
    }

    @Sentence(promise = 10, says = "NONE: it has no such;")
    static void noSuchKind() {
        CallCourt x = Bench.court("class A{none a(); none b(int); none c(int,int);}");
        seen(x, 0, 0, NONE, NONE, -2);
        seen(x, 0, 1, -3, NONE, -2);
        seen(x, 0, 2, -3, -3, -2);
    }

    @Sentence(promise = 10, says = "the type is not under that.")
    static void seenFromATypeNotUnder() {
        CallCourt x = Bench.court("class A{int m(int,int);} class B:A{int k(int,int);} class C{}");
        seen(x, 2, 0, NONE, NONE, NONE);
        seen(x, 0, 1, NONE, NONE, NONE);
        seen(x, 1, 0, -3, -3, -3);
    }

    // ---- 11 erased

    private static void erased(CallCourt x, int m, int first, int second, int result) {
        Bench.due("erased(" + m + ", 0)", x.erased(m, 0), first);
        Bench.due("erased(" + m + ", 1)", x.erased(m, 1), second);
        Bench.due("erased(" + m + ", 2)", x.erased(m, 2), result);
    }

    @Sentence(promise = 11, says = "a VAR's bound is ANY without under.)")
    static void withoutUnderTheBoundIsAny() {
        CallCourt x = Bench.court("class A{} class B<V,W under A>{V m(W,V);} class C<V under A,W>{V m(W,V);}");
        erased(x, 0, 0, -1, -1);
        erased(x, 1, -1, 0, 0);
    }

    @Sentence(promise = 11, says = "ERASED is a VAR its bound, others themselves.")
    static void aVarItsBound() {
        CallCourt x = Bench.court("class A{} class B<V under A,W under B>{V m(W,V); int k(int,B); none j(A);}");
        erased(x, 0, 1, 0, 0);
        erased(x, 1, -3, 1, -3);
        erased(x, 2, 0, NONE, -2);
    }

    @Sentence(promise = 11, says = "Likewise ERASED, as its own type sees it.")
    static void asItsOwnTypeSeesIt() {
        // though all that is under F has an argument there
        CallCourt x = Bench.court("class A{} face F<V under A>{V m(V);} class B:F<B>{} class C<W>:F<W>{open W m(W);}");
        erased(x, 0, 0, NONE, 0);
        erased(x, 1, -1, NONE, -1);
    }

    @Sentence(promise = 11, says = "UNKNOWN;")
    static void erasedUnknown() {
        CallCourt x = Bench.court("class A{none a(); none b(int);}");
        for (int m : new int[] {-1, 2, LEAST, MOST}) {
            Bench.due("erased(" + m + ", 2)", x.erased(m, 2), UNKNOWN);
        }
        Bench.due("erased(1, 2)", x.erased(1, 2), -2);
    }

    @Sentence(promise = 11, says = "OUTSIDE;")
    static void erasedOutside() {
        CallCourt x = Bench.court("class A{none a(); none b(int);}");
        for (int k : new int[] {-1, 3, LEAST, MOST}) {
            Bench.due("erased(0, " + k + ")", x.erased(0, k), OUTSIDE);
        }
        Bench.due("erased(0, 2)", x.erased(0, 2), -2);
    }

    @Sentence(promise = 11, says = "NONE.")
    static void erasedNone() {
        CallCourt x = Bench.court("class A{none a(); none b(int);}");
        Bench.due("erased(0, 0)", x.erased(0, 0), NONE);
        Bench.due("erased(0, 1)", x.erased(0, 1), NONE);
        Bench.due("erased(1, 0)", x.erased(1, 0), -3);
        Bench.due("erased(1, 1)", x.erased(1, 1), NONE);
    }
}
