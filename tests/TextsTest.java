/** Promises 1 to 5: a new object, feed, trim, compile, fault. */
public final class TextsTest {
    public static void main(String[] args) {
        newObject();
        feed();
        trim();
        compileKeepsOrReplaces();
        tokens();
        places();
        names();
        refs();
        nests();
        memberWords();
        tooMany();
        atTheLastBrace();
        leastFaultOfOneToken();
        Bench.end();
    }

    private static void newObject() {
        CallCourt x = new CallCourt();
        for (int what = 0; what <= 4; what++) {
            Bench.due("new: told(" + what + ")", x.told(what), 0);
        }
        Bench.due("new: fault()", x.fault(), 0);
        Bench.due("new: hops()", x.hops(), 0);
        Bench.due("new: type(0, 0)", x.type(0, 0), CallCourt.UNKNOWN);
        Bench.due("new: member(0, 0)", x.member(0, 0), CallCourt.UNKNOWN);
        Bench.due("new: rule(0, 0, 0, 0, 0)", x.rule(0, 0, 0, 0, 0), CallCourt.UNKNOWN);
        Bench.due("new: compile()", x.compile(), 0);
        Bench.due("new: two objects share nothing", Bench.compile(new CallCourt(), "class A{}") + x.told(0), 1);
    }

    private static void feed() {
        CallCourt x = new CallCourt();
        // "class A{}" and blanks, the highest byte of each number first
        Bench.due("feed: bytes", x.feed(0x636C6173, 0x7320417B, 0x7D202020, 0x20202020, 0x20202020), 20);
        Bench.due("feed: compile()", x.compile(), 1);
        Bench.due("feed: a byte above 127", x.feed(0x636C6173, 0x7320C17B, 0x7D202020, 0x20202020, 0x20202020), 20);
        Bench.due("feed: compile()", x.compile(), -26);
        Bench.due("feed: fault()", x.fault(), 1);
        for (int n = 1; n <= 200; n++) {
            Bench.due("feed: number " + n, x.feed(0x20202020, 0x20202020, 0x20202020, 0x20202020, 0x20202020), n * 20);
        }
        Bench.due("feed: one more", x.feed(-1, -1, -1, -1, -1), CallCourt.FULL);
        Bench.due("feed: one more changes nothing", x.told(4), 4000);
        Bench.due("feed: trim to 3981", x.trim(3981), 3981);
        Bench.due("feed: 4001 would be", x.feed(-1, -1, -1, -1, -1), CallCourt.FULL);
        Bench.due("feed: trim to 3980", x.trim(3980), 3980);
        Bench.due("feed: to 4000", x.feed(0, 0, 0, 0, 0x24), 4000);
        Bench.due("feed: the first of the last ones is no token", x.compile(), -20 - 3980);
    }

    private static void trim() {
        CallCourt x = new CallCourt();
        Bench.due("trim: below 0", x.trim(-1), CallCourt.OUTSIDE);
        Bench.due("trim: above", x.trim(1), CallCourt.OUTSIDE);
        Bench.due("trim: nothing", x.trim(0), 0);
        Bench.feed(x, "class A{} class B{}");
        Bench.due("trim: above what it has", x.trim(20), CallCourt.OUTSIDE);
        Bench.due("trim: a refusal changes nothing", x.told(4), 19);
        Bench.due("trim: all", x.trim(19), 19);
        Bench.due("trim: the first nine", x.trim(9), 9);
        Bench.due("trim: told(4)", x.told(4), 9);
        Bench.due("trim: compile()", x.compile(), 1);
    }

    private static void compileKeepsOrReplaces() {
        CallCourt x = new CallCourt();
        Bench.due("compile: two", Bench.compile(x, "pack p; face A{int m(); int k();} class B{}"), 2);
        Bench.due("compile: the tape is empty", x.told(4), 0);
        Bench.due("compile: a fault", Bench.compile(x, "class Q{} class R{} class S{} $"), -20 - 30);
        Bench.due("compile: the tape is empty behind a fault", x.told(4), 0);
        Bench.due("compile: fault()", x.fault(), 1);
        Bench.due("compile: types as they were", x.told(0), 2);
        Bench.due("compile: members as they were", x.told(1), 2);
        Bench.due("compile: packages as they were", x.told(3), 1);
        Bench.due("compile: kinds as they were", x.type(0, 2), 2);
        Bench.due("compile: in place", Bench.compile(x, "class C{int m();}"), 1);
        Bench.due("compile: fault() is 0 again", x.fault(), 0);
        Bench.due("compile: members", x.told(1), 1);
        Bench.due("compile: packages", x.told(3), 0);
        Bench.due("compile: what it is", x.type(0, 2), 0);
        Bench.due("compile: blanks alone", Bench.compile(x, " \n "), 0);
        Bench.due("compile: no type is left", x.type(0, 0), CallCourt.UNKNOWN);
        Bench.due("compile: no member is left", x.member(0, 0), CallCourt.UNKNOWN);
        Bench.due("compile: packages without types", Bench.compile(x, "pack p; pack q; pack p; loader 2;"), 0);
        Bench.due("compile: told(3)", x.told(3), 2);
    }

    private static void tokens() {
        Texts.right("class abcdefgh{}", 1);
        Texts.right("class a2345678{int Z9();}", 1);
        Texts.right("pack\np\n;class\nA{\n}", 1);
        Texts.right("loader 1;loader 2;loader 0;", 0);
        Texts.right("class A{}class B:A{int m(int,int);none k();}", 2);
        Texts.wrong(1, "class @abcdefghi{}");
        Texts.wrong(1, "class @a23456789{}");
        Texts.wrong(1, "@staticstatic");
        Texts.wrong(1, "@\tclass A{}");
        Texts.wrong(1, "class A{}@\r");
        Texts.wrong(1, "class A@_{}");
        Texts.wrong(1, "class @\u00e9{}");
        Texts.wrong(1, "@.");
        Texts.wrong(1, "class A{int m(@-);}");
        Texts.wrong(2, "class @9a{}");
        Texts.wrong(2, "loader 1@2;");
        Texts.wrong(2, "loader 1@x;");
        Texts.wrong(2, "loader @9;");
        Texts.wrong(2, "loader @x;");
        Texts.wrong(2, "@classA{}");
        Texts.wrong(2, "@;");
    }

    private static void places() {
        Texts.wrong(2, "pack");
        Texts.wrong(2, "pack p  ");
        Texts.wrong(2, "pack p; abstract");
        Texts.wrong(2, "pack p; abstract @face A{}");
        Texts.wrong(2, "abstract @abstract class A{}");
        Texts.wrong(2, "class @open{}");
        Texts.wrong(2, "class A@(){}");
        Texts.wrong(2, "class A<@>{}");
        Texts.wrong(2, "class A<V @W>{}");
        Texts.wrong(2, "class A<V,W@,X>{}");
        Texts.wrong(2, "class A<V under @int>{}");
        Texts.wrong(2, "class A<V under");
        Texts.wrong(2, "class A{} class B<V under A @under A>{}");
        Texts.wrong(2, "class A<V>@<W>{}");
        Texts.wrong(2, "class A{} class B of @{}");
        Texts.wrong(2, "class A{} class B of A @of A{}");
        Texts.wrong(2, "class A{} face F @of A{}");
        Texts.wrong(2, "face A{} class B:A @of A{}");
        Texts.wrong(2, "class A:@{}");
        Texts.wrong(2, "face A{} class B:A,@{}");
        Texts.wrong(2, "face A{} class B:A@;");
        Texts.wrong(2, "face A<V>{} class B:A<@>{}");
        Texts.wrong(2, "face A<V,W>{} class B:A<B,B@,B>{}");
        Texts.wrong(2, "face A<V>{} class B:A<B");
        Texts.wrong(2, "face A<V>{} class B:A<B>");
        Texts.wrong(2, "face A<V>{} class B:A<B>@<B>{}");
        Texts.wrong(2, "face A<V>{} class B:A");
        Texts.wrong(2, "class A{@;}");
        Texts.wrong(2, "class A{open@}");
        Texts.wrong(2, "class A{static @open int m();}");
        Texts.wrong(2, "class A{none @none m();}");
        Texts.wrong(2, "class A{int @int();}");
        Texts.wrong(2, "class A{int m@;}");
        Texts.wrong(2, "class A{int m(@,);}");
        Texts.wrong(2, "class A{int m(int,@);}");
        Texts.wrong(2, "class A{int m(int @int);}");
        Texts.wrong(2, "class A{int m(int,int@,int);}");
        Texts.wrong(2, "class A{int m()@}");
        Texts.wrong(2, "class A{int m();");
        Texts.wrong(2, "class A{}@}");
        Texts.wrong(2, "class A{@class B{}}");
    }

    private static void names() {
        Texts.right("class A<A>{A m();}", 1);
        Texts.right("class V{} class A<V under V>:V{V m(V);}", 2);
        Texts.right("class A{A A(A);}", 1);
        Texts.right("pack A; class A{int A();}", 1);
        Texts.right("loader 1; class A{} class B:A{A m();} loader 0; class C{}", 3);
        Texts.right("class A{} loader 2; class B<V under A>:A{A m(B);}", 2);
        Texts.wrong(3, "class A{} face @A{}");
        Texts.wrong(3, "loader 1; class A{} loader 2; class @A{}");
        Texts.wrong(3, "class A<V,@V>{}");
        Texts.wrong(3, "class A<V under @W,W>{}");
        Texts.wrong(3, "class A<V>:@V{}");
        Texts.wrong(3, "class A<V> of @V{}");
        Texts.wrong(3, "class A{int m(@V);}");
        Texts.wrong(3, "class A{@V m();}");
        Texts.wrong(3, "class A{} class B{int m(A,@C);}");
        Texts.wrong(3, "class A<V>{} class B{@V m();}");
        Texts.wrong(3, "class A{@B m();} class B{}");
        Texts.wrong(3, "face A<V>{} class B:A<@C>{}");
        Texts.wrong(3, "loader 1; class A{} loader 0; class B<V under @A>{}");
        Texts.wrong(3, "loader 1; class A{} loader 2; class B of @A{}");
        Texts.wrong(3, "face F<V>{} loader 1; class A{} loader 2; class B:F<@A>{}");
        Texts.wrong(3, "loader 1; class A{} loader 0; class B{int m(@A);}");
        Texts.wrong(3, "face A:@A{}");
    }

    private static void refs() {
        Texts.right("abstract class A{} class B:A{} face F{} class C:B,F{} class D:F{}", 5);
        Texts.right("face F<V,W>{} face G<V>:F<V,G>{}", 2);
        Texts.wrong(4, "abstract class A{} face F:@A{}");
        Texts.wrong(4, "class A{} face F{} class B:F,@A{}");
        Texts.wrong(4, "class A{} class B{} class C:A,@B{}");
        Texts.wrong(4, "class A{} class B:A,@A{}");
        Texts.wrong(4, "face F<V>{} class B:F<B>,@F<B>{}");
        Texts.wrong(4, "face F{} face G<V>{} class B:F,G@,F{}");
        Texts.wrong(4, "face F<V,W>{} class B:F<B>@{}");
        Texts.wrong(4, "face F<V>{} class B:F<B,B>@{}");
        Texts.wrong(4, "face F{} class B:F<B>@{}");
        Texts.wrong(4, "face F{} class B:F<B,B>@,F{}");
    }

    private static void nests() {
        Texts.right("class A{} class B of A{} class C of A{}", 3);
        Texts.right("face A{} class B<V> of A:A{}", 2);
        Texts.right("pack p; class A{} pack q; class B{} pack p; class C of A{}", 3);
        Texts.wrong(3, "class A of @A{}");
        Texts.wrong(4, "class A{} class B of A{} class C of @B{}");
        Texts.wrong(4, "class A{} pack p; class B of @A{}");
        Texts.wrong(4, "pack p; class A{} pack q; class B of @A{}");
        Texts.wrong(4, "class A{} loader 1; class B of @A{}");
    }

    private static void memberWords() {
        Texts.right("class A{open int a(); near int b(); own int c(); int d(); open static int e(); own static int f();}", 1);
        Texts.right("abstract class A{abstract int a(); near abstract int b(); open abstract int c(); none d();}", 1);
        Texts.right("face F{own static int a(); own lent int b(); open int c(); abstract int d(); lent none e(); static int f();}",
            1);
        Texts.wrong(5, "face F{@near int m();}");
        Texts.wrong(5, "class A{@lent int m();}");
        Texts.wrong(5, "abstract class A{open @lent int m();}");
        Texts.wrong(5, "class A{open @abstract int m();}");
        Texts.wrong(5, "abstract class A{own @abstract int m();}");
        Texts.wrong(5, "face F{own @abstract int m();}");
        Texts.wrong(5, "face F{own @none m();}");
        Texts.wrong(5, "face F{own @F m();}");
    }

    private static void tooMany() {
        Texts.right(Texts.types(24), 24);
        Texts.wrong(6, Texts.types(24) + "@class Z{}");
        Texts.wrong(6, Texts.types(24) + "pack p; @abstract class Z{}");
        Texts.wrong(6, Texts.types(24) + "@face $");
        Texts.right("class A{" + Texts.membersOf(8) + "}", 1);
        Texts.wrong(6, "class A{" + Texts.membersOf(8) + "@int z();}");
        Texts.wrong(6, "class A{" + Texts.membersOf(8) + "@open int z();}");
        Texts.wrong(6, "class A{" + Texts.membersOf(8) + "@static $");
        Texts.wrong(6, "class A{" + Texts.membersOf(8) + "@A z();}");
        Texts.right(Texts.fullTypes(15) + "class Z{}", 16);
        Texts.wrong(6, Texts.fullTypes(15) + "class Z{@none z();}");
        Texts.wrong(6, Texts.fullTypes(15) + "face Z{@lent none z();}");
        String faces = "face A{} face B{} face C{} face D{} face E{} class X{} ";
        Texts.right(faces + "class Y:X,A,B,C{}", 7);
        Texts.wrong(6, faces + "class Y:X,A,B,C,@D{}");
        Texts.wrong(6, faces + "face Y:A,B,C,D,@E{}");
    }

    private static void atTheLastBrace() {
        Texts.wrong(7, "class A{int m(); int k(); own static A m();@}");
        Texts.wrong(7, "class A{} class B<V under A,W>{int m(V,W); int m(A,W);@}");
        Texts.right("class A{int m(); int m(int); int m(int,int); int m(A); int k();}", 1);
        Texts.wrong(8, "face F<V>{} class A{} class B:F<A>{} class C:B,F<B>{@}");
        Texts.wrong(8, "face F<V>{} face G<V>:F<V>{} face H<V>:F<V>{} class C:G<C>,H<G>{@}");
        Texts.right("face F<V>{} face G<V>:F<V>{} face H<V>:F<V>{} class C<W>:G<W>,H<W>{}", 4);
        Texts.wrong(9, "class A{near int m();} class B:A{int m();@}");
        Texts.wrong(9, "class A{open int m();} class B:A{near int m();@}");
        Texts.wrong(9, "face F{int m();} class B:F{near int m();@}");
        Texts.wrong(9, "class A{static int m();} class B:A{int m();@}");
        Texts.wrong(9, "class A{int m();} class B:A{static int m();@}");
        Texts.wrong(9, "class A{static int m();} class B:A{static none m();@}");
        Texts.wrong(9, "class A{open static A m();} class B:A{near static A m();@}");
        Texts.wrong(9, "face F<V>{V m();} class A:F<A>{open F m();@}");
        Texts.right("face F<V>{V m();} class A<W>:F<W>{open W m();}", 2);
        Texts.right("class A{} face F{A m();} class B<W under A>:F{open W m();}", 3);
        Texts.wrong(9, "class A{} face F{A m();} class B<W>:F{open W m();@}");
        Texts.wrong(9, "class A{} face F{A m();} class B<W under F>:F{open W m();@}");
        Texts.right("class A{own int m();} class B:A{static none m();}", 2);
        Texts.right("pack p; class A{static int m();} pack q; class B:A{none m();}", 2);
        Texts.wrong(9, "pack p; class A{int m();} class B:A{open int m();} pack q; class C:B{near int m();@}");
        Texts.right("class A{int m();} loader 1; class B:A{none m();}", 2);
        Texts.wrong(10, "face A{int m();} face B{none m();} face C:A,B{@}");
        Texts.wrong(10, "face A<V>{V m(V);} face B{int m(B);} class C:A<B>,B{@}");
        Texts.right("face A<V>{V m(V);} face B{B m(B);} class C:A<B>,B{}", 3);
        Texts.right("face A{int m();} face B{static none m(); own lent none m(int);} class C:A,B{}", 3);
        Texts.right("face A{A m();} face B:A{B m();} class C:A,B{}", 3);
        Texts.right("face A{A m();} face B{B m();} face D:A,B{D m();} class C:D,A,B{open C m();}", 4);
        Texts.right("class P{none m();} face F{int m();} pack p; class C:P,F{open int m();}", 3);
        Texts.wrong(10, "face A{A m();} face B{B m();} face D:A,B{D m();} class C:D{@}");
    }

    private static void leastFaultOfOneToken() {
        Texts.wrong(3, Texts.types(23) + "class @T0{}");
        Texts.wrong(5, "class A{" + Texts.membersOf(8) + "@lent int z();}");
        Texts.wrong(3, "class A{" + Texts.membersOf(8) + "@B z();}");
        Texts.wrong(2, "class A{" + Texts.membersOf(8) + "@;}");
        Texts.wrong(1, "class A{" + Texts.membersOf(8) + "@$}");
        String faces = "face A{} face B{} face C{} face D{} face E{} class X{} ";
        Texts.wrong(4, faces + "class Y:A,B,C,D,@X{}");
        Texts.wrong(4, faces + "class Y:A,B,C,D,@A{}");
        Texts.wrong(3, faces + "class Y:A,B,C,D,@F{}");
        Texts.wrong(3, "face F{own @G m();}");
        Texts.wrong(2, "face F{own @open m();}");
        Texts.wrong(1, "face F<V>{} class B:F@$");
        Texts.wrong(7, "face F<V>{} class A{open int k();} class B:A,F<A>{} class C:B,F<B>{none k(); int m(); int m();@}");
        Texts.wrong(8, "face F<V>{} class A{open int k();} class B:A,F<A>{} class C:B,F<B>{none k();@}");
        Texts.wrong(9, "class A{open int k();} face F{int m();} face G{none m();} class C:A,F,G{none k();@}");
    }
}
