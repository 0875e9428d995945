/** Which NAMES stand for what, and the FAULTS 1 to 6 (promise 5); 7 to 10 have a class of their own. */
final class BoundsOfFaults {
    private static final String FACES = "face A{} face B{} face C{} face D{} face E{} class X{} ";

    private BoundsOfFaults() {
    }

    // ---- what a NAME stands for

    @Sentence(promise = 5, says = "A type sees types told before it, and itself, of its own loader and of loader 0.")
    static void whichTypesAreSeen() {
        for (int seer = 0; seer <= 2; seer++) {
            for (int seen = 0; seen <= 2; seen++) {
                String told = "face F<V>{} loader " + seen + "; face A{} loader " + seer + "; ";
                sees(told, "class B<V under ", "A>{}", seen == 0 || seen == seer);
                sees(told, "class B:", "A{}", seen == 0 || seen == seer);
                sees(told, "class B:F<", "A>{}", seen == 0 || seen == seer);
                sees(told, "class B{", "A m();}", seen == 0 || seen == seer);
                sees(told, "class B{int m(int,", "A);}", seen == 0 || seen == seer);
            }
            String told = "face F<V>{} loader " + seer + "; ";
            Texts.right(told + "class B<V under B>:F<B>{B m(B);}", 2);
            Texts.wrong(3, told + "class B<V under @A>{} class A{}");
            Texts.wrong(3, told + "class B:@A{} face A{}");
            Texts.wrong(3, told + "class B:F<@A>{} class A{}");
            Texts.wrong(3, told + "class B{@A m();} class A{}");
            Texts.wrong(3, told + "class B{int m(@A);} class A{}");
        }
        Texts.wrong(3, "loader 1; class A{} loader 2; class B of @A{}");
        Texts.wrong(3, "loader 1; class A{} loader 0; class B of @A{}");
        Texts.right("loader 1; class A{} loader 0; loader 1; class B of A{}", 2);
    }

    private static void sees(String told, String ahead, String behind, boolean right) {
        if (right) {
            Texts.right(told + ahead + behind, 3);
        } else {
            Texts.wrong(3, told + ahead + "@" + behind);
        }
    }

    @Sentence(promise = 5, says = "a type's NAME (a VAR's none) stands in under, of, as REF.")
    static void noVarStandsForAType() {
        Texts.wrong(3, "class A<V,W under @V>{}");
        Texts.wrong(3, "class A<V> of @V{}");
        Texts.wrong(3, "class A<V>:@V{}");
        Texts.right("class V{} class A<V,W under V> of V:V{}", 2);
        CallCourt x = Bench.court("class V{} class A<V,W under V> of V:V{int m(W);}");
        Bench.due("the bound is the type", x.erased(0, 0), 0);
        Bench.due("the nest is the type", x.type(1, 4), 0);
        Bench.due("the class above is the type", x.type(1, 3), 0);
    }

    // ---- FAULTS

    @Sentence(promise = 5, says = "FAULTS, the first token that has one;")
    static void theFirstTokenWithAFault() {
        Texts.wrong(5, "face F{@near int m();} $");
        Texts.wrong(7, "class A{int m(); int m();@} class A{} $");
        Texts.wrong(10, "face A{int m();} face B{none m();} class C:A,B{@}$");
        Texts.wrong(3, "class A{@B m($);}");
        Texts.wrong(4, "class A{} face F:@A $");
        Texts.wrong(6, Texts.types(24) + "@class $");
        Texts.wrong(2, "class A @B $");
        Texts.wrong(1, "class A@$ B");
        Texts.wrong(2, "@; abcdefghij");
        // what is wrong at the last } waits for what stands ahead of it
        Texts.wrong(3, "class A{int m(); int m(); @B k();}");
        Texts.wrong(2, "class A{int m(); int m();");
    }

    @Sentence(promise = 5, says = "of one token the least:")
    static void theLeastFaultOfOneToken() {
        String eight = Texts.membersOf(8);
        // 1 ahead of 2, 4, 6
        Texts.wrong(1, "face F<V>{} class B:F@$");
        Texts.wrong(1, "class A{" + eight + "@$}");
        Texts.wrong(1, FACES + "class Y:A,B,C,D,@abcdefghi{}");
        // 2 ahead of 3, 4, 5, 6
        Texts.wrong(2, "class A @B{}");
        Texts.wrong(2, "face F<V>{} class B:F @x");
        Texts.wrong(2, "face F<V>{} class B:F<B,B> @of B{}");
        Texts.wrong(2, "face F<V>{} class B:F");
        Texts.wrong(2, "face F{open @near int m();}");
        Texts.wrong(2, "class A{static @lent int m();}");
        Texts.wrong(2, "class A{static @abstract int m();}");
        Texts.wrong(2, "face F{own @open m();}");
        Texts.wrong(2, "face F{own @; m();}");
        Texts.wrong(2, "class A{" + eight + "@;}");
        Texts.wrong(2, "class A{" + eight + "@class B{}}");
        Texts.wrong(2, FACES + "class Y:A,B,C,D,@int{}");
        // 3 ahead of 4, 5, 6
        Texts.wrong(3, "face A:@A{}");
        Texts.wrong(3, "loader 1; class A{} face F{} loader 2; face G:@A{}");
        Texts.wrong(3, "pack p; class A{} loader 1; class B{} loader 2; class C of @B{}");
        Texts.wrong(3, "face F{own @G m();}");
        Texts.wrong(3, "class A{" + eight + "@B z();}");
        Texts.wrong(3, FACES + "class Y:A,B,C,D,@F{}");
        Texts.wrong(3, FACES + "class Y:A,B,C,D,@Y{}");
        // 4 ahead of 6
        Texts.wrong(4, FACES + "class Y:A,B,C,D,@X{}");
        Texts.wrong(4, FACES + "class Y:A,B,C,D,@A{}");
        // 5 ahead of 6
        Texts.wrong(5, "class A{" + eight + "@lent int z();}");
        Texts.wrong(5, "class A{" + eight + "@abstract int z();}");
        Texts.wrong(5, "face A{" + eight + "@near int z();}");
        // of the last }: 7, 8, 9, 10
        String faces = "face F<V>{} face I{int q();} face J{none q();} class A{open int k();} class B:A,F<A>{} ";
        Texts.wrong(7, faces + "class C:B,F<B>,I,J{none k(); int m(); int m();@}");
        Texts.wrong(7, faces + "class C:B,I,J{int m(); int m();@}");
        Texts.wrong(8, faces + "class C:B,F<B>,I,J{none k();@}");
        Texts.wrong(8, faces + "class C:B,F<B>,I,J{@}");
        Texts.wrong(9, faces + "class C:B,I,J{none k();@}");
        Texts.wrong(10, faces + "class C:B,I,J{@}");
    }

    @Sentence(promise = 5, says = "1 it is no token,")
    static void noToken() {
        Texts.wrong(1, "@$");
        Texts.wrong(1, "class@$A{}");
        Texts.wrong(1, "class A@_B{}");
        Texts.wrong(1, "class A{int m(@-);}");
        Texts.wrong(1, "class A{}@\r\n");
        Texts.wrong(1, "class A{}\n@\u0000");
        Texts.wrong(1, "class A{}@\u00ff");
        Texts.wrong(1, "class A{}@\u0080");
    }

    @Sentence(promise = 5, says = "or too long (a DIGIT beside a DIGIT is another token).")
    static void tooLong() {
        Texts.wrong(1, "@abcdefghi");
        Texts.wrong(1, "  @abcdefghi;");
        Texts.wrong(1, "class A{int @m12345678();}");
        Texts.wrong(2, "loader 1@2;");
        Texts.wrong(2, "loader 1@23456789;");
        Texts.wrong(2, "@123456789");
        Texts.wrong(2, "class @123456789{}");
    }

    @Sentence(promise = 5, says = "2 it cannot stand there")
    static void cannotStandThere() {
        String[] tokens = ("pack p ; abstract class A < V under A , W > { open static int m ( V , int ) ; }"
            + " class B of A : A < B , B > { }").split(" ");
        Texts.right(String.join(" ", tokens), 2);
        // a DIGIT can stand behind loader alone, and loader where an item begins alone
        for (int i = 0; i < tokens.length; i++) {
            StringBuilder text = new StringBuilder();
            for (int j = 0; j < i; j++) {
                text.append(tokens[j]).append(' ');
            }
            Texts.wrong(2, text + "@7 " + tokens[i]);
            Texts.wrong(2, text + "@" + (startsAnItem(tokens, i) ? "{" : "loader") + " 1;");
        }
    }

    private static boolean startsAnItem(String[] tokens, int i) {
        return i == 0 || tokens[i - 1].equals("}") || i == 3;
    }

    @Sentence(promise = 5, says = "(the end: the length).")
    static void theEndStandsAtTheLength() {
        String[] tokens = ("pack p ; loader 1 ; abstract class A < V under A , W > { open static int m ( V , int ) ; }"
            + " class B of A : A < B , B > { own none k ( ) ; }").split(" ");
        StringBuilder text = new StringBuilder();
        for (int i = 0; i < tokens.length; i++) {
            text.append(tokens[i]);
            boolean isWhole = tokens[i].equals("}") || i == 2 || i == 5;
            for (String end : new String[] {"", " ", "\n  "}) {
                if (isWhole) {
                    Texts.right(text + end, i < 27 ? 0 : i < 46 ? 1 : 2);
                } else {
                    Texts.wrongAt(2, text.length() + end.length(), text + end);
                }
            }
            text.append(' ');
        }
    }

    @Sentence(promise = 5, says = "3 a NAME of a type told already;")
    static void aTypeToldAlready() {
        Texts.wrong(3, "class A{} class @A{}");
        Texts.wrong(3, "face A{} abstract class @A{}");
        Texts.wrong(3, "pack p; class A{} pack q; face @A{}");
        Texts.wrong(3, "loader 1; class A{} loader 2; class @A{}");
        Texts.wrong(3, Texts.types(23) + "class @T0{}");
        Texts.wrong(3, Texts.types(23) + "class @T22{}");
        Texts.right("class A{} class a{} class A1{} class AA{}", 4);
        Texts.right("pack A; class A<B>{int A(); B C();} class B{}", 2);
    }

    @Sentence(promise = 5, says = "of a VAR that the type has;")
    static void aVarThatTheTypeHas() {
        Texts.wrong(3, "class A<V,@V>{}");
        Texts.wrong(3, "class A<V under A,@V>{}");
        Texts.right("class A<V,W>{} class B<V,W>{} face F<W,V>{}", 3);
        Texts.right("class A<A>{} class B<A,B>{}", 2);
    }

    @Sentence(promise = 5, says = "where it stands for something, one that is not told,")
    static void notTold() {
        Texts.wrong(3, "class A<V under @B>{}");
        Texts.wrong(3, "class A<V under @V>{}");
        Texts.wrong(3, "class A<V,W under @B>{}");
        Texts.wrong(3, "class A of @B{}");
        Texts.wrong(3, "class A:@B{}");
        Texts.wrong(3, "face A{} class B:A,@C{}");
        Texts.wrong(3, "face A<V>{} class B:A<@C>{}");
        Texts.wrong(3, "face A<V,W>{} class B:A<B,@C>{}");
        Texts.wrong(3, "face A<V>{} class B:A<@V>{}");
        Texts.wrong(3, "class A{@B m();}");
        Texts.wrong(3, "class A{int m(@B);}");
        Texts.wrong(3, "class A{int m(A,@B);}");
        Texts.wrong(3, "class A<V>{} class B{@V m();}");
        Texts.wrong(3, "pack p; class A{@p m();}");
        Texts.wrong(3, "class A{int m(); int k(@m);}");
        Texts.right("class A{int B();}", 1);
    }

    @Sentence(promise = 5, says = "or not seen")
    static void notSeen() {
        Texts.wrong(3, "loader 1; class A{} loader 0; class B<V under @A>{}");
        Texts.wrong(3, "loader 2; class A{} loader 1; class B of @A{}");
        Texts.wrong(3, "loader 1; face A{} loader 2; face B:@A{}");
        Texts.wrong(3, "face F<V>{} loader 1; class A{} loader 0; class B:F<@A>{}");
        Texts.wrong(3, "loader 1; class A{} loader 0; class B{@A m();}");
        Texts.wrong(3, "loader 1; class A{} loader 2; class B{int m(@A);}");
        Texts.right("loader 1; class A{} loader 2; class B<A>{A m(A);}", 2);
    }

    @Sentence(promise = 5, says = "(as REF, behind of: itself, too).")
    static void itselfAsRefOrBehindOf() {
        Texts.wrong(3, "class A:@A{}");
        Texts.wrong(3, "face A:@A{}");
        Texts.wrong(3, "face F{} class A:F,@A{}");
        Texts.wrong(3, "class A<V>:@A<A>{}");
        Texts.wrong(3, "class A of @A{}");
        Texts.right("face F<V>{} class A<V under A>:F<A>{A m(A);}", 2);
    }

    @Sentence(promise = 5, says = "4 a REF: a class that is not the first REF of a class;")
    static void aClassIsTheFirstRefOfAClass() {
        Texts.right("class A{} face F{} class B:A,F{} abstract class C:B{} class D:C,F{}", 5);
        Texts.wrong(4, "class A{} face F{} class B:F,@A{}");
        Texts.wrong(4, "class A{} class B{} class C:A,@B{}");
        Texts.wrong(4, "class A{} face F:@A{}");
        Texts.wrong(4, "abstract class A{} face F{} face G:F,@A{}");
        Texts.wrong(4, "class A{} face F{} face G{} class B:F,G,@A{}");
    }

    @Sentence(promise = 5, says = "a type that is a REF already;")
    static void aRefTwice() {
        Texts.wrong(4, "face F{} class A:F,@F{}");
        Texts.wrong(4, "face F{} face G{} face H:F,G,@F{}");
        Texts.wrong(4, "face F{} face G{} face H{} face I:F,G,H,@H{}");
        Texts.wrong(4, "class A{} class B:A,@A{}");
        Texts.wrong(4, "face F<V>{} class A:F<A>,@F<A>{}");
        // above by another way is no REF
        Texts.right("face F{} face G:F{} class A:G,F{} class B:A,F,G{}", 4);
    }

    @Sentence(promise = 5, says = "at the token behind its NAME, if that is no <,")
    static void noArgumentsAtAll() {
        Texts.wrong(4, "face F<V>{} class A:F@{}");
        Texts.wrong(4, "face F<V,W>{} class A:F@{}");
        Texts.wrong(4, "face F<V>{} face G{} class A:F  @,G{}");
        Texts.wrong(4, "class C<V>{} class A:C@{}");
        Texts.right("face F{} face G{} class A:F,G{}", 3);
    }

    @Sentence(promise = 5, says = "or behind its >: not as many arguments as it has VARS;")
    static void notAsManyArguments() {
        Texts.wrong(4, "face F{} class A:F<A>@{}");
        Texts.wrong(4, "face F{} class A:F<A,A>@{}");
        Texts.wrong(4, "face F<V>{} class A:F<A,A>@{}");
        Texts.wrong(4, "face F<V,W>{} class A:F<A> @{}");
        Texts.wrong(4, "face F<V,W>{} face G{} class A:F<A> @,G{}");
        Texts.wrong(4, "face F<V>{} class C<V,W>:F<V,W>@{}");
        Texts.right("face F<V>{} face G<V,W>{} class A:F<A>,G<A,F>{}", 3);
    }

    @Sentence(promise = 5, says = "behind of: a type not of the same run-time package,")
    static void nestOfAnotherPackage() {
        Texts.wrong(4, "class A{} pack p; class B of @A{}");
        Texts.wrong(4, "pack p; class A{} pack q; class B of @A{}");
        Texts.wrong(4, "class A{} loader 1; class B of @A{}");
        Texts.wrong(4, "pack p; class A{} loader 2; class B of @A{}");
        Texts.right("pack p; loader 1; class A{} pack q; loader 0; class B{} pack p; loader 1; class C of A{}", 3);
        Texts.right("face A{} class B of A{}", 2);
    }

    @Sentence(promise = 5, says = "or one that has an of itself.")
    static void nestOfANest() {
        Texts.wrong(4, "class A{} class B of A{} class C of @B{}");
        Texts.right("class A{} class B of A{} class C of A{}", 3);
        Texts.right("class A{} class B:A{} class C of B{}", 3);
    }

    @Sentence(promise = 5, says = "5 near in a face;")
    static void nearInAFace() {
        Texts.wrong(5, "face F{@near int m();}");
        Texts.wrong(5, "face F{int k(); @near static int m();}");
        Texts.right("class A{near int m();} abstract class B{near abstract int m();}", 2);
    }

    @Sentence(promise = 5, says = "lent in a class;")
    static void lentInAClass() {
        Texts.wrong(5, "class A{@lent int m();}");
        Texts.wrong(5, "abstract class A{@lent int m();}");
        Texts.wrong(5, "class A{open @lent int m();}");
        Texts.right("face F{lent int m(); open lent int k(); own lent int j();}", 1);
    }

    @Sentence(promise = 5, says = "abstract in a class that is not,")
    static void abstractInAPlainClass() {
        Texts.wrong(5, "class A{@abstract int m();}");
        Texts.wrong(5, "class A{open @abstract int m();}");
        Texts.wrong(5, "abstract class A{} class B:A{@abstract int m();}");
        Texts.right("abstract class A{abstract int m(); int k();} face F{abstract int m();}", 2);
    }

    @Sentence(promise = 5, says = "or behind own;")
    static void abstractBehindOwn() {
        Texts.wrong(5, "abstract class A{own @abstract int m();}");
        Texts.wrong(5, "face F{own @abstract int m();}");
        Texts.wrong(5, "class A{own @abstract int m();}");
        Texts.right("abstract class A{own int m(); own static int k();}", 1);
    }

    @Sentence(promise = 5, says = "in a face own without form (at the result).")
    static void ownWithoutFormInAFace() {
        Texts.wrong(5, "face F{own @int m();}");
        Texts.wrong(5, "face F{own @none m();}");
        Texts.wrong(5, "face F{own @F m();}");
        Texts.wrong(5, "face F<V>{own\n@V m();}");
        Texts.right("face F{own static int m(); own lent int k();} class A{own int m();}", 2);
    }

    @Sentence(promise = 5, says = "6 too many (at its first token): the 25th type,")
    static void the25thType() {
        Texts.right(Texts.types(24), 24);
        Texts.wrong(6, Texts.types(24) + "@class Z{}");
        Texts.wrong(6, Texts.types(24) + "\n@abstract class Z{}");
        Texts.wrong(6, Texts.types(24) + "pack p; loader 1; @face Z{}");
        Texts.wrong(6, Texts.types(24) + "@class T0{}");
    }

    @Sentence(promise = 5, says = "a 9th member of a type,")
    static void the9thMember() {
        String eight = Texts.membersOf(8);
        Texts.right("class A{" + eight + "} class B{" + eight + "}", 2);
        for (String first : new String[] {"int", "none", "A", "open int", "near none", "own A", "static int",
            "open static int"}) {
            Texts.wrong(6, "class A{" + eight + "@" + first + " z();}");
        }
        Texts.wrong(6, "face A{" + eight + "@lent int z();}");
        Texts.wrong(6, "face A{" + eight + "@own int z();}");
        Texts.wrong(6, "abstract class A{" + eight + "@abstract int z();}");
        Texts.wrong(6, "class A{" + eight + "} class B{" + eight + "@int m0();}");
    }

    @Sentence(promise = 5, says = "the 121st member,")
    static void the121stMember() {
        String full = Texts.fullTypes(15);
        Texts.right(full, 15);
        Texts.right(full + "class Z{}", 16);
        for (String first : new String[] {"int", "none", "Z", "open int", "static int", "own static Z"}) {
            Texts.wrong(6, full + "class Z{@" + first + " z();}");
        }
        Texts.wrong(6, full + "face Z{@lent none z();}");
        String most = Texts.fullTypes(14) + "class Y{" + Texts.membersOf(7) + "}";
        Texts.right(most + "class Z{int z();}", 16);
        Texts.wrong(6, most + "class Z{int z(); @int y();}");
    }

    @Sentence(promise = 5, says = "a 5th REF.")
    static void the5thRef() {
        Texts.right(FACES + "class Y:A,B,C,D{}", 7);
        Texts.right(FACES + "class Y:X,A,B,C{}", 7);
        Texts.right(FACES + "face Y:A,B,C,D{}", 7);
        Texts.wrong(6, FACES + "class Y:A,B,C,D,@E{}");
        Texts.wrong(6, FACES + "class Y:X,A,B,C,@D{}");
        Texts.wrong(6, FACES + "face Y:A,B,C,D,@E{}");
        // those above a REF do not count
        Texts.right(FACES + "face G:A,B,C,D{} face H:G,E{} class Y:X,H{}", 9);
    }
}
