/** What a text is made of: tokens, items, types, members. All of it is what compile() takes (promise 4). */
final class BoundsOfTokens {
    private static final String[] WORDS = {"pack", "loader", "class", "face", "of", "under", "open", "near", "own",
        "static",
        "abstract", "lent", "int", "none"};
    private static final String SIGNS = ";,:{}()<>";

    private BoundsOfTokens() {
    }

    private static boolean isLetter(char c) {
        return c >= 'a' && c <= 'z' || c >= 'A' && c <= 'Z';
    }

    private static boolean isDigit(char c) {
        return c >= '0' && c <= '9';
    }

    private static boolean isBlank(char c) {
        return c == 32 || c == 10;
    }

    // ---- tokens

    @Sentence(promise = 4, says = "TOKENS, as long as can be, blanks (32, 10) between or not:")
    static void blanksBetweenOrNot() {
        Texts.right("class A<V,W under A>{open static int m(V,W);}pack p;loader 1;class B:A<B,B>{}", 2);
        Texts.right(" \n class \n A \n < \n V \n > \n { \n own \n int \n m \n ( \n V \n , \n int \n ) \n ; \n } \n ",
            1);
        Texts.right("class\nA{}class\nB{}", 2);
        // as long as can be: one NAME, or one that is too long
        Texts.wrong(2, "@packp;");
        Texts.wrong(2, "@classA{}");
        Texts.wrong(2, "@loader1;");
        Texts.wrong(1, "@abstractclass A{}");
        Texts.wrong(3, "class A{@intm();}");
        for (char c = 0; c < 33; c++) {
            if (isBlank(c)) {
                Texts.right("class" + c + "A" + c + "{}", 1);
            } else {
                Texts.wrongAt(1, 5, "class" + c + "A{}");
            }
        }
        Texts.wrongAt(1, 5, "class\u00a0A{}");
    }

    @Sentence(promise = 4, says = "NAMES and WORDS (a letter, then letters, digits; 8 at most),")
    static void lettersThenLettersAndDigits() {
        for (char c = 33; c < 256; c++) {
            if (isLetter(c)) {
                Texts.right("class " + c + "{}", 1);
                Texts.right("class A" + c + "{}", 1);
            } else {
                Texts.wrongAt(isDigit(c) || SIGNS.indexOf(c) >= 0 ? 2 : 1, 6, "class " + c + "B{}");
            }
        }
        for (char c = '0'; c <= '9'; c++) {
            Texts.right("class A" + c + "{} class A" + c + "B{}", 2);
        }
        Texts.right("class a2345678{} class A2345678{} class abcdefgh{} class abcdefgi{} class bbcdefgh{}", 5);
        Texts.right("pack abcdefgh; abstract class abcdefgh<ijklmnop>{near static ijklmnop qrstuvwx(abcdefgh);}", 1);
        Texts.wrong(1, "class @abcdefghi{}");
        Texts.wrong(1, "class @a23456789{}");
        Texts.wrong(1, "pack @abcdefghi;");
        Texts.wrong(1, "class A<@abcdefghi>{}");
        Texts.wrong(1, "class A{@abcdefghi m();}");
        Texts.wrong(1, "class A{int @abcdefghi();}");
        Texts.wrong(1, "class A{int m(@abcdefghi);}");
        Texts.wrong(1, "@abstract1 class A{}");
        // long enough to come round in a number of bits
        Texts.wrong(1, "@abstractabstract class A{}");
        Texts.wrong(1, "class @" + "x".repeat(256) + "{}");
    }

    @Sentence(promise = 4, says = "DIGITS (one),")
    static void oneDigit() {
        Texts.right("loader 1;", 0);
        Texts.wrong(2, "loader 0@1;");
        Texts.wrong(2, "loader 1@0;");
        Texts.wrong(2, "loader 0 @0;");
        Texts.wrong(2, "loader 1@a;");
        Texts.wrong(2, "@1");
        Texts.wrong(2, "@1class A{}");
    }

    @Sentence(promise = 4, says = "the signs ; , : { } ( ) < >.")
    static void nineSigns() {
        for (char c = 0; c < 256; c++) {
            boolean isToken = isLetter(c) || isDigit(c) || SIGNS.indexOf(c) >= 0;
            if (isBlank(c)) {
                Texts.right("" + c, 0);
            } else {
                Texts.wrongAt(isToken ? 2 : 1, 0, "" + c);
                Texts.wrongAt(isToken ? 2 : 1, 9, "class A{}" + c);
            }
        }
    }

    @Sentence(promise = 4, says = "WORDS are pack loader class face of under open near own static abstract lent int"
        + " none; other rows of that kind are NAMES.")
    static void wordsAreNoNames() {
        for (String word : WORDS) {
            Texts.wrong(2, "pack @" + word + ";");
            Texts.wrong(2, "class @" + word + "{}");
            Texts.wrong(2, "class A<@" + word + ">{}");
            Texts.wrong(2, "class A{int @" + word + "();}");
            Texts.wrong(2, "class A{} class B of @" + word + "{}");
            Texts.wrong(2, "class A{} class B:@" + word + "{}");
            String name = word.length() < 8 ? word + "s" : word.substring(1);
            Texts.right("pack " + name + "; class " + name + "{" + name + " " + name + "(" + name + ");}", 1);
            String upper = word.substring(0, 1).toUpperCase() + word.substring(1);
            Texts.right("class " + upper + "{}", 1);
            Texts.right("class " + word.substring(0, word.length() - 1) + "{}", 1);
        }
    }

    // ---- items and types

    @Sentence(promise = 4, says = "text: any number of items.")
    static void anyNumberOfItems() {
        Texts.right("", 0);
        Texts.right("   \n", 0);
        Texts.right("class A{}", 1);
        Texts.right("pack p;".repeat(571), 0);
        Texts.right("loader 1;".repeat(444), 0);
        Texts.right(Texts.types(24), 24);
        Texts.right("pack p;" + Texts.types(24) + "loader 2; pack q;", 24);
    }

    @Sentence(promise = 4, says = "item: pack NAME ; or loader DIGIT ; or type.")
    static void threeItems() {
        Texts.right("pack p; loader 0; class A{} pack q; abstract class B{} loader 1; face C{}", 3);
        Texts.wrong(2, "pack@;");
        Texts.wrong(2, "pack @1;");
        Texts.wrong(2, "pack p @q;");
        Texts.wrong(2, "pack p @class A{}");
        Texts.wrong(2, "pack p@,q;");
        Texts.wrong(2, "pack p;@;");
        Texts.wrong(2, "loader@;");
        Texts.wrong(2, "loader @p;");
        Texts.wrong(2, "loader 1 @1;");
        Texts.wrong(2, "loader 1 @class A{}");
        for (String word : new String[] {"of", "under", "open", "near", "own", "static", "lent", "int", "none", "A",
            "1", "{"}) {
            Texts.wrong(2, "@" + word);
            Texts.wrong(2, "class A{} @" + word);
        }
        Texts.wrong(2, "class A{@pack p;}");
    }

    @Sentence(promise = 4, says = "type: abstract (or not) class NAME VARS of NAME : REFS { members }, or face NAME"
        + " VARS : REFS { members }; VARS, of NAME, and : REFS may each lack.")
    static void headsOfTypes() {
        for (int lacking = 0; lacking < 8; lacking++) {
            String vars = (lacking & 1) != 0 ? "" : "<V>";
            String nest = (lacking & 2) != 0 ? "" : " of H";
            String refs = (lacking & 4) != 0 ? "" : ":H";
            Texts.right("face H{} class A" + vars + nest + refs + "{int m();}", 2);
            Texts.right("face H{} abstract class A" + vars + nest + refs + "{}", 2);
            if (nest.isEmpty()) {
                Texts.right("face H{} face A" + vars + refs + "{int m();}", 2);
            } else {
                Texts.wrong(2, "face H{} face A" + vars + " @of H" + refs + "{}");
            }
        }
        Texts.wrong(2, "abstract @face A{}");
        Texts.wrong(2, "abstract @abstract class A{}");
        Texts.wrong(2, "abstract @A{}");
        Texts.wrong(2, "face @class A{}");
        Texts.wrong(2, "class@{}");
        Texts.wrong(2, "class @1{}");
        Texts.wrong(2, "class A @B{}");
        Texts.wrong(2, "face H{} class A of H@<V>{}");
        Texts.wrong(2, "face H{} class A:H @of H{}");
        Texts.wrong(2, "face H{} class A of H @of H{}");
        Texts.wrong(2, "face H{} class A of@:H{}");
        Texts.wrong(2, "class A<V>@<W>{}");
        Texts.wrong(2, "class A@;");
        Texts.wrong(2, "class A@}");
        Texts.wrong(2, "class A{@{}}");
        Texts.wrong(2, "class A{}@}");
        Texts.wrong(2, "class A{@class B{}}");
    }

    @Sentence(promise = 4, says = "VARS: < VAR , VAR > (one or two);")
    static void oneOrTwoVars() {
        Texts.right("class A<V>{}", 1);
        Texts.right("class A<V,W>{}", 1);
        Texts.wrong(2, "class A<@>{}");
        Texts.wrong(2, "class A<V,W@,X>{}");
        Texts.wrong(2, "class A<V,@>{}");
        Texts.wrong(2, "class A<@,V>{}");
        Texts.wrong(2, "class A<V @W>{}");
        Texts.wrong(2, "class A<V@{}");
        Texts.wrong(2, "class A<V,W@{}");
        Texts.wrong(2, "class A<@1>{}");
        Bench.due("type(0, 7) of one", Bench.court("class A<V>{}").type(0, 7), 1);
        Bench.due("type(0, 7) of two", Bench.court("class A<V,W>{}").type(0, 7), 2);
    }

    @Sentence(promise = 4, says = "VAR: NAME, or NAME under NAME.")
    static void aVarWithABoundOrNone() {
        Texts.right("class A{} face F<V under A,W>{} face G<V,W under F>{}", 3);
        Texts.right("class A<V under A,W under A>{}", 1);
        Texts.wrong(2, "class A<V under@>{}");
        Texts.wrong(2, "class A<V under @int>{}");
        Texts.wrong(2, "class A<V under @none>{}");
        Texts.wrong(2, "class A<V under @1>{}");
        Texts.wrong(2, "class A<@under A>{}");
        Texts.wrong(2, "class A<V under A @under A>{}");
        Texts.wrong(2, "class A<V @A>{}");
        Texts.wrong(2, "class A<V under A@<A>>{}");
        Texts.wrong(2, "class A<V@:A>{}");
    }

    @Sentence(promise = 4, says = "REFS: one or more REF with , between;")
    static void oneOrMoreRefs() {
        String faces = "face A{} face B{} face C{} face D{} ";
        Texts.right(faces + "class X:A{}", 5);
        Texts.right(faces + "class X:A,B{}", 5);
        Texts.right(faces + "face X:A,B,C,D{}", 5);
        Texts.wrong(2, faces + "class X:@{}");
        Texts.wrong(2, faces + "class X:@,A{}");
        Texts.wrong(2, faces + "class X:A,@{}");
        Texts.wrong(2, faces + "class X:A,@,B{}");
        Texts.wrong(2, faces + "class X:A @B{}");
        Texts.wrong(2, faces + "class X:A@:B{}");
        Texts.wrong(2, faces + "class X:A@;");
        Texts.wrong(2, faces + "class X:@int{}");
        Texts.wrong(2, faces + "class X:A@}");
    }

    @Sentence(promise = 4, says = "REF: NAME, or NAME < NAME , NAME > (one or two).")
    static void argumentsOfRefs() {
        String faces = "face N{} face F<V>{} face G<V,W>{} ";
        Texts.right(faces + "class X:N,F<X>,G<X,N>{}", 4);
        Texts.right(faces + "class X:G<X,X>,N{}", 4);
        Texts.wrong(2, faces + "class X:F<@>{}");
        Texts.wrong(2, faces + "class X:F<@,X>{}");
        Texts.wrong(2, faces + "class X:G<X,@>{}");
        Texts.wrong(2, faces + "class X:G<X @X>{}");
        Texts.wrong(2, faces + "class X:G<X,X@,X>{}");
        Texts.wrong(2, faces + "class X:F<@int>{}");
        Texts.wrong(2, faces + "class X:F<@none>{}");
        Texts.wrong(2, faces + "class X:F<@1>{}");
        Texts.wrong(2, faces + "class X:G<X,@int>{}");
        Texts.wrong(2, faces + "class X:F<F@<X>>{}");
        Texts.wrong(2, faces + "class X:F<X@{}");
        Texts.wrong(2, faces + "class X:F<X>@<X>{}");
        Texts.wrong(2, faces + "class X:F<X>@>{}");
        Texts.wrong(2, faces + "class X:F<X @under X>{}");
    }

    // ---- members

    @Sentence(promise = 4, says = "member: access (open, near, own, or none), form (static, abstract, lent, or none),"
        + " result, NAME ( kinds ) ;")
    static void accessAndFormMayLack() {
        for (String access : new String[] {"", "open ", "near ", "own "}) {
            Texts.right("class A{" + access + "int m();}", 1);
            Texts.right("class A{" + access + "static int m();}", 1);
            Texts.wrong(2, "class A{" + access + "static @open int m();}");
            Texts.wrong(2, "class A{" + access + "static @static int m();}");
            Texts.wrong(2, "class A{" + access + "static @lent int m();}");
            Texts.wrong(2, "class A{" + access + "int @int m();}");
        }
        for (String access : new String[] {"", "open ", "near "}) {
            Texts.right("abstract class A{" + access + "abstract int m();}", 1);
        }
        for (String access : new String[] {"", "open "}) {
            Texts.right("face A{" + access + "int m(); " + access + "abstract int n();}", 1);
        }
        for (String access : new String[] {"", "open ", "own "}) {
            Texts.right("face A{" + access + "static int m(); " + access + "lent int n();}", 1);
        }
        Texts.wrong(2, "class A{open @own int m();}");
        Texts.wrong(2, "class A{near @near int m();}");
        Texts.wrong(2, "class A{int @open m();}");
        Texts.wrong(2, "class A{open@;}");
        Texts.wrong(2, "class A{open static@}");
        Texts.wrong(2, "class A{@1 m();}");
        Texts.wrong(2, "class A{@;}");
        Texts.wrong(2, "class A{int@();}");
        Texts.wrong(2, "class A{int @1();}");
        Texts.wrong(2, "class A{int m@);}");
        Texts.wrong(2, "class A{int m@;}");
        Texts.wrong(2, "class A{int m(@;}");
        Texts.wrong(2, "class A{int m()@}");
        Texts.wrong(2, "class A{int m()@,k();}");
        Texts.wrong(2, "class A{int m();@;}");
    }

    @Sentence(promise = 4, says = "kinds: none at all, one, or two with a comma;")
    static void upToTwoKinds() {
        CallCourt x = Bench.court("class A{int m(); int m(int); int m(A,int);}");
        for (int m = 0; m < 3; m++) {
            Bench.due("member(" + m + ", 3)", x.member(m, 3), m);
        }
        Texts.wrong(2, "class A{int m(int,int@,int);}");
        Texts.wrong(2, "class A{int m(int @int);}");
        Texts.wrong(2, "class A{int m(int,@);}");
        Texts.wrong(2, "class A{int m(@,);}");
        Texts.wrong(2, "class A{int m(@,int);}");
        Texts.wrong(2, "class A{int m(int,@,int);}");
        Texts.wrong(2, "class A{int m(int,int @int);}");
        Texts.wrong(2, "class A{int m(int@;}");
        Texts.wrong(2, "class A{int m(int,int@;}");
        Texts.wrong(2, "class A{int m(A @a);}");
    }

    @Sentence(promise = 4, says = "result: none or a kind;")
    static void resultsAreNoneOrAKind() {
        Texts.right("class A<V>{none m(); int k(); A a(); V v();}", 1);
        for (String word : WORDS) {
            boolean isResult = word.equals("int") || word.equals("none");
            if (isResult) {
                Texts.right("class A{open static " + word + " m();}", 1);
            } else {
                Texts.wrong(2, "class A{open static @" + word + " m();}");
            }
        }
        Texts.wrong(2, "class A{none @none m();}");
        Texts.wrong(2, "class A{open @1 m();}");
        Texts.wrong(2, "class A{open @( m();}");
        // without a result the NAME would be one
        Texts.wrong(3, "class A{open @m();}");
        Texts.wrong(2, "class A{open A@();}");
    }

    @Sentence(promise = 4, says = "kind: int, or a NAME.")
    static void kindsAreIntOrAName() {
        Texts.right("class A<V>{int m(int,A); int m(V,int);}", 1);
        for (String word : WORDS) {
            if (!word.equals("int")) {
                Texts.wrong(2, "class A{int m(@" + word + ");}");
                Texts.wrong(2, "class A{int m(int,@" + word + ");}");
            }
        }
        Texts.wrong(2, "class A{int m(@1);}");
        Texts.wrong(2, "class A{int m(@<);}");
        Texts.wrong(2, "class A{int m(A@<A>);}");
    }

    @Sentence(promise = 4, says = "DIGITS 0, 1, 2 are loaders.")
    static void threeLoaders() {
        for (int digit = 0; digit <= 2; digit++) {
            Bench.due("type(0, 1)", Bench.court("loader " + digit + "; class A{}").type(0, 1), digit);
        }
        for (int digit = 3; digit <= 9; digit++) {
            Texts.wrong(2, "loader @" + digit + ";");
            Texts.wrong(2, "class A{} loader @" + digit + "; class B{}");
        }
    }
}
