/** The FAULTS 7 to 10, which stand at a type's last } (promise 5). */
final class BoundsOfTheLastBrace {
    private BoundsOfTheLastBrace() {
    }

    @Sentence(promise = 5, says = "7 to 10 at a type's last }:")
    static void atTheLastBrace() {
        Texts.wrong(7, "class A{int m();int m();int k(); @} class B{}");
        Texts.wrong(8, "face F<V>{} class A:F<A>{} class B:A,F<B>{int m();\n@}");
        Texts.wrong(9, "class A{open int m();} class B:A{int m(); int k();@}");
        Texts.wrong(10, "face A{int m();} face B{none m();} class C:A,B{int k();@}");
    }

    // ---- 7

    @Sentence(promise = 5, says = "7: two members of one NAME and like erased kinds;")
    static void twins() {
        // whatever their result, access, form
        Texts.wrong(7, "class A{int m(); none m();@}");
        Texts.wrong(7, "class A{int m(int,A); own static int m(int,A);@}");
        Texts.wrong(7, "class A{int m(); int a(); int b(); int c(); int d(); int e(); int f(); int m();@}");
        Texts.wrong(7, "face F{lent int m(F); static none m(F);@}");
        // a VAR is its bound
        Texts.wrong(7, "class A{} class B<V under A>{int m(V); int m(A);@}");
        Texts.wrong(7, "class A{} class B<V under A,W under A>{int m(V,int); int m(W,int);@}");
        Texts.wrong(7, "class B<V,W>{int m(V); int m(W);@}");
        Texts.wrong(7, "class B<V under B>{int m(int,V); int m(int,B);@}");
        Texts.right("class A{} class B<V,W under A>{int m(V); int m(W); int m(B); int m(int);}", 2);
        // unlike NAMES, numbers of kinds, kinds, order of kinds
        Texts.right("class A{int m(); int n(); int m(int); int m(A); int m(int,int); int m(int,A); int m(A,int); int"
            + " m(A,A);}", 1);
        // of two types
        Texts.right("class A{int m();} class B{int m();} class C:A{int m();}", 3);
    }

    // ---- 8

    @Sentence(promise = 5, says = "8: a type above it has unlike arguments by two ways;")
    static void unlikeArguments() {
        String told = "face F<V>{} face P<V,W>{} class A{} class B:A,F<A>{} ";
        Texts.wrong(8, told + "class C:B,F<B>{@}");
        Texts.right(told + "class C:B,F<A>{}", 5);
        // either order of the ways
        Texts.wrong(8, told + "face G:F<A>{} face H:F<B>,G{@}");
        Texts.wrong(8, told + "face G:F<A>{} face H:G,F<B>{@}");
        Texts.wrong(8, told + "face G:F<A>{} face H:F<B>{} class C:G,H{@}");
        Texts.right(told + "face G:F<A>{} face H:F<A>{} class C:G,H{}", 7);
        // through VARS
        Texts.wrong(8, told + "face G<X>:F<X>{} face H<X>:F<X>{} class C:G<A>,H<B>{@}");
        Texts.wrong(8, told + "face G<X>:F<X>{} face H<X>:F<X>{} class C<Y>:G<Y>,H<A>{@}");
        Texts.wrong(8, told + "face G<X>:F<X>{} face H<X>:F<X>{} class C<Y,Z>:G<Y>,H<Z>{@}");
        Texts.right(told + "face G<X>:F<X>{} face H<X>:F<X>{} class C<Y,Z>:G<Z>,H<Z>{}", 7);
        // a VAR is not its bound
        Texts.wrong(8, told + "face G<X>:F<X>{} class C<Y under A>:G<Y>,F<A>{@}");
        // the second argument alone
        Texts.wrong(8, told + "face G:P<A,A>{} face C:G,P<A,B>{@}");
        Texts.wrong(8, told + "face G<X>:P<X,A>{} face H<X>:P<A,X>{} class C:G<A>,H<B>{@}");
        Texts.right(told + "face G<X>:P<X,A>{} face H<X>:P<A,X>{} class C:G<A>,H<A>{}", 7);
        // far above
        Texts.wrong(8, told + "class C:B{} class D:C{} face G:F<B>{} face H:G{} class E:D,H{@}");
    }

    // ---- 9

    @Sentence(promise = 5, says = "9: one of its members and one above: it OVERRIDES it, but that both may be static,"
        + " or one alone,")
    static void onlyWhatOverrides() {
        // each would be wrong if it were an override: unlike NAME, kinds, own, out of reach
        Texts.right("class A{open int m(); open int k(int);} class B:A{none n(); none k();}", 2);
        Texts.right("class A{own int m(); open static int k();} class B:A{none m(); own none k();}", 2);
        Texts.right("class A{int m(); static int k();} pack p; class B:A{none m(); none k();}", 2);
        Texts.right("class A{int m(); static int k();} loader 1; class B:A{static none m(); none k();}", 2);
        Texts.right("class A{open int m();} class B{none m();}", 2);
        // both static: likewise, of one package, near or open
        Texts.wrong(9, "class A{static int m();} class B:A{static none m();@}");
        Texts.wrong(9, "class A{near static int m();} pack p; class B:A{near static none m();@}");
        Texts.wrong(9, "class A{open static int m();} loader 1; class B:A{open static none m();@}");
        Texts.right("class A{static int m();} pack p; class B:A{static none m();}", 2);
        // far above, in a face, through a type of another package
        Texts.wrong(9, "class A{open int m();} class B:A{} class C:B{none m();@}");
        Texts.wrong(9, "face F{int m();} class A:F{} class B:A{open none m();@}");
        Texts.wrong(9, "pack p; class A{int m();} class B:A{open int m();} pack q; class C:B{int m();@}");
        Texts.wrong(9, "pack p; class A{int m();} pack q; class B:A{} pack p; class C:B{none m();@}");
        // by one between alone: C's result is alike to B's as C sees it, but not under A's
        Texts.wrong(9, "pack p; class R{} class A{R m();} class B<W under R>:A{open W m();} pack q; class X{}"
            + " class C:B<X>{open X m();@}");
        Texts.right("pack p; class R{} class A{R m();} class B<W under R>:A{W m();} pack q; class X{}"
            + " class C:B<X>{open X m();}", 5);
        // kinds as the type sees them
        Texts.wrong(9, "class A{} face F<V>{int m(V);} class B:F<A>{open none m(A);@}");
        Texts.right("class A{} face F<V>{int m(V);} class B:F<A>{open none m(B);}", 3);
    }

    @Sentence(promise = 5, says = "and one alone is,")
    static void oneAloneIsStatic() {
        Texts.wrong(9, "class A{open static int m();} class B:A{open int m();@}");
        Texts.wrong(9, "class A{open int m();} class B:A{open static int m();@}");
        Texts.wrong(9, "face F{int m();} class B:F{open static int m();@}");
        Texts.wrong(9, "face F{static int m();} face G:F{lent int m();@}");
        Texts.wrong(9, "abstract class A{abstract int m();} class B:A{static int m();@}");
        Texts.right("class A{open static int m();} class B:A{open static int m();}", 2);
        Texts.right("class A{open int m();} class B:A{open int m();}", 2);
    }

    @Sentence(promise = 5, says = "or it is less open (none, near, open),")
    static void lessOpen() {
        String[] accesses = {"", "near ", "open "};
        for (int above = 0; above < 3; above++) {
            for (int below = 0; below < 3; below++) {
                for (String form : new String[] {"", "static "}) {
                    String text = "class A{" + accesses[above] + form + "int m();}"
                        + " class B:A{" + accesses[below] + form + "int m();";
                    if (below < above) {
                        Texts.wrong(9, text + "@}");
                    } else {
                        Texts.right(text + "}", 2);
                    }
                }
            }
        }
        Texts.wrong(9, "face F{int m();} class A:F{near int m();@}");
        Texts.wrong(9, "face F{int m();} class A:F{int m();@}");
    }

    @Sentence(promise = 5, says = "or its result is not NARROW enough;")
    static void resultNotNarrowEnough() {
        Texts.wrong(9, "class A{open int m();} class B:A{open none m();@}");
        Texts.wrong(9, "class A{open none m();} class B:A{open int m();@}");
        Texts.wrong(9, "class A{open int m();} class B:A{open A m();@}");
        Texts.wrong(9, "class A{open A m();} class B:A{open int m();@}");
        Texts.wrong(9, "class A{open A m();} class B:A{open none m();@}");
        Texts.wrong(9, "face F{F m();} abstract class A:F{open abstract int m();@}");
    }

    @Sentence(promise = 5, says = "A result is NARROW enough for another one (both as the type sees them): alike;")
    static void narrowIfAlike() {
        Texts.right("class A{open int m(); open none k(); open A j();} class B:A{open int m(); open none k(); open A"
            + " j();}", 2);
        Texts.right("face F<V>{V m();} class A<W>:F<W>{open W m();}", 2);
        Texts.right("face F<V>{V m();} class A:F<A>{open A m();}", 2);
        Texts.right("face F<V>{V m();} face G<X,Y>:F<Y>{Y m();}", 2);
        // its VAR 0 is not F's VAR 0
        Texts.wrong(9, "face F<V>{V m();} face G<X,Y>:F<Y>{X m();@}");
        Texts.wrong(9, "face F<V>{V m();} face G<X>:F<F>{X m();@}");
    }

    @Sentence(promise = 5, says = "or that is a type, and it is a type under that,")
    static void narrowIfUnder() {
        String told = "face F{} class A:F{} class B:A{} class C{} ";
        Texts.right(told + "face X{F m(); A k();} class Y:X{open B m(); open B k();}", 6);
        Texts.right(told + "face X{X m();} face Y:X{Y m();}", 6);
        Texts.wrong(9, told + "face X{B m();} class Y:X{open A m();@}");
        Texts.wrong(9, told + "face X{A m();} class Y:X{open F m();@}");
        Texts.wrong(9, told + "face X{F m();} class Y:X{open C m();@}");
        Texts.right(told + "face X<V>{V m();} class Y:X<A>{open B m();}", 6);
        Texts.wrong(9, told + "face X<V>{V m();} class Y:X<B>{open A m();@}");
        // that is a VAR, though its bound is one that it is under
        Texts.wrong(9, told + "face X<V>{V m();} class Y<W under F>:X<W>{open A m();@}");
        Texts.wrong(9, told + "face X<V>{V m();} class Y<W>:X<W>{open A m();@}");
        // nor is a VAR's number, 100 or 101, that of a type in 5 bits: 4 or 5
        String six = "face A{} face B{} face C{} face D{} face E{} face F{} class G:E,F{} face X<V>{V m();} ";
        Texts.wrong(9, six + "class Y<V,W>:X<V>{open G m();@}");
        Texts.wrong(9, six + "class Y<V,W>:X<W>{open G m();@}");
    }

    @Sentence(promise = 5, says = "or a VAR whose bound is.")
    static void narrowIfTheBoundIs() {
        String told = "face F{} class A:F{} class B:A{} ";
        Texts.right(told + "face X{A m();} class Y<V under A>:X{open V m();}", 5);
        Texts.right(told + "face X{A m();} class Y<V,W under B>:X{open W m();}", 5);
        Texts.right(told + "face X{X m();} class Y<V under Y>:X{open V m();}", 5);
        Texts.wrong(9, told + "face X{A m();} class Y<V under F>:X{open V m();@}");
        Texts.wrong(9, told + "face X{A m();} class Y<V under B,W under F>:X{open W m();@}");
        Texts.wrong(9, told + "face X{F m();} class Y<V>:X{open V m();@}");
        Texts.wrong(9, told + "face X{int m();} class Y<V under A>:X{open V m();@}");
        // the bound is the type itself, the first one of the text
        Texts.right("class A{} face X{A m();} class Y<V under A>:X{open V m();}", 3);
        // that is a VAR with a bound
        Texts.wrong(9, told + "face X<P>{P m();} class Y<V under A,W under B>:X<V>{open W m();@}");
    }

    // ---- 10

    @Sentence(promise = 5, says = "10: members of two types above it,")
    static void twoTypesAbove() {
        Texts.wrong(10, "face A{int m();} face B{none m();} class C:A,B{@}");
        Texts.wrong(10, "face A{int m();} face B{none m();} face C:A,B{@}");
        Texts.wrong(10, "class A{int m();} face B{none m();} class C:A,B{@}");
        Texts.wrong(10, "class A{int m();} class D:A{} face B{none m();} face E:B{} class C:D,E{@}");
        Texts.wrong(10, "face A{int k(); int m();} face B{none j(); none m();} abstract class C:A,B{int i();@}");
        Texts.wrong(10, "face A{int m();} face B{} face D{none m();} class C:A,B,D{@}");
        // one above it, one of its own; none above it
        Texts.right("face A{int m();} class B{none m();} class C:A{int m(int);}", 3);
        Texts.right("face A{A m();} class C:A{open C m();}", 2);
    }

    @Sentence(promise = 5, says = "neither of these under the other,")
    static void neitherUnderTheOther() {
        Texts.right("face A{A m();} face B:A{B m();} class C:A,B{}", 3);
        Texts.right("face A{A m();} face B:A{B m();} class C:B,A{}", 3);
        Texts.right("class A{open A m();} class B:A{open B m();} class C:B{}", 3);
        Texts.wrong(10, "face A{A m();} face B{B m();} face D:A,B{D m();} class C:D{@}");
    }

    @Sentence(promise = 5, says = "of one NAME, with kinds alike")
    static void oneNameAndLikeKinds() {
        Texts.right("face A{int m();} face B{none n();} class C:A,B{}", 3);
        Texts.right("face A{int m(int);} face B{none m();} class C:A,B{}", 3);
        Texts.right("face A{int m(int,A);} face B{none m(A,int);} class C:A,B{}", 3);
        Texts.right("face A{int m(int,A);} face B{none m(int,int);} class C:A,B{}", 3);
        Texts.wrong(10, "face A{int m(int,A);} face B{none m(int,A);} class C:A,B{@}");
        // as it sees them
        Texts.wrong(10, "face A<V>{int m(V);} face B{none m(B);} class C:A<B>,B{@}");
        Texts.right("face A<V>{int m(V);} face B{none m(B);} class C:A<C>,B{}", 3);
        Texts.wrong(10, "face A<V>{int m(V);} face B<V,W>{none m(W);} class C<X>:A<X>,B<C,X>{@}");
        Texts.right("face A<V>{int m(V);} face B<V,W>{none m(W);} class C<X>:A<X>,B<X,C>{}", 3);
    }

    @Sentence(promise = 5, says = "and results unlike as it sees them,")
    static void unlikeResults() {
        Texts.right("face A{int m();} face B{int m();} class C:A,B{}", 3);
        Texts.right("face A{A m();} face B{A m();} class C:A,B{}", 3);
        Texts.wrong(10, "face A{A m();} face B{B m();} class C:A,B{@}");
        Texts.right("face A<V>{V m();} face B{B m();} class C:A<B>,B{}", 3);
        Texts.wrong(10, "face A<V>{V m();} face B{B m();} class C:A<A>,B{@}");
        Texts.right("face A<V>{V m();} face B<V,W>{W m();} class C<X>:A<X>,B<C,X>{}", 3);
        Texts.wrong(10, "face A<V>{V m();} face B<V,W>{V m();} class C<X>:A<X>,B<C,X>{@}");
    }

    @Sentence(promise = 5, says = "neither static nor own, and no")
    static void neitherStaticNorOwn() {
        Texts.right("face A{int m();} face B{static none m();} class C:A,B{}", 3);
        Texts.right("face A{static int m();} face B{none m();} class C:A,B{}", 3);
        Texts.right("face A{int m();} face B{own lent none m();} class C:A,B{}", 3);
        Texts.right("class A{own int m();} face B{none m();} class C:A,B{}", 3);
        Texts.wrong(10, "class A{int m();} face B{lent none m();} class C:A,B{@}");
    }

    @Sentence(promise = 5, says = "member of it OVERRIDES one of them.")
    static void noMemberOverridesOne() {
        Texts.right("face A{A m();} face B{B m();} class D:A,B{open D m();}", 3);
        // it overrides F's alone: P's is of another package
        Texts.right("class P{none m();} face F{int m();} pack p; class C:P,F{open int m();}", 3);
        Texts.right("face F{int m();} pack p; class P{none m();} pack q; class C:P,F{open int m();}", 3);
        Texts.wrong(10, "class P{none m();} face F{int m();} pack p; class C:P,F{open int m(int);@}");
        Texts.wrong(10, "class P{none m();} face F{int m();} pack p; class C:P,F{own int m();@}");
        // a member of a type above it is none of its own
        Texts.wrong(10, "face A{A m();} face B{B m();} class D:A,B{open D m();} class E:D{@}");
        Texts.right("face A{A m();} face B{B m();} class D:A,B{open D m();} class E:D{open E m();}", 4);
    }
}
