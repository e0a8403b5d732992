/** Promises 5 and 6: compile and fault. In a text here a ^ stands ahead of the place of the FAULT. */
public final class FaultTest {
    private static final String ORDER = "order t: a<b, b<c; ";
    private static final String KIND = "kind k(n:int, s:text='x') many; kind q on class; ";

    public static void main(String[] args) {
        compiled();
        cutting();
        standing();
        named();
        ordered();
        missing();
        tooMany();
        marksWrong();
        laterNames();
        depths();
        precedence();
        Due.close();
    }

    private static void fault(int kind, String text) {
        Due.fault("FAULT", kind, text);
    }

    private static void right(String text, int classes) {
        Due d = Due.right("no FAULT", text, classes);
        d.is("fault(2)", d.x.fault(2), -1);
        d.is("fault(-1)", d.x.fault(-1), -1);
    }

    private static String times(int n, String text) {
        return Due.times(n, text);
    }

    private static String method(String acts) {
        return "class C{method m(){" + acts + "}}";
    }

    private static void compiled() {
        right("class A{}", 1);
        right(" \n class\nA{ }class B:A{}\n", 2);
        right("order t:a;class A{}", 1);
        right("order t:a<a;class A{}", 1);
        right(ORDER + KIND + "maker m:q adds @q @k(n=1); class A @q @k(n=-3) @no k { field f @t.a = - 4; }", 1);
        right("kind k on class class param; class A{}", 1);
        right("class A{method m(){L:push 1;ret;}field f;}", 1);
        right(times(12, "class #{}"), 12);
        right("order abcdefgh:a; class Z9{field f=999999999;}", 1);
        right("kind k(s:text='12345678')on param heirs many; class A{}", 1);
        right("kind k(s:text=' ~!\"{@;');class A{}", 1);
        Due d = Due.with("a FAULT takes the program away", "class A{}");
        d.is("size", d.x.size(3, 0), 1);
        d.feed("class");
        d.is("compile", d.compile(), Due.ILLEGAL_ARGUMENT);
        d.is("fault(1)", d.x.fault(1), 5);
        d.is("size", d.x.size(3, 0), -1);
        d.is("tell", d.x.tell(), -1);
        d.is("the tape is empty", d.x.end(1), -1);
        d.feed("class B{}");
        d.is("compile", d.compile(), Due.NOTHING);
        d.is("fault(0)", d.x.fault(0), 0);
    }

    private static void cutting() {
        fault(1, "^#");
        fault(1, "class A{} ^#");
        fault(1, "class A{}^\t");
        fault(1, "class A{}^>");
        fault(1, "class A{}^\u0000");
        fault(1, "class A{}^\u00e4");
        fault(1, "class ^abcdefghi{}");
        fault(1, "class A{field f=^1234567890;}");
        fault(1, "kind k(s:text=^'123456789');class A{}");
        fault(1, "kind k(s:text=^'abc");
        fault(1, "kind k(s:text=^'ab\n');class A{}");
        fault(1, "kind k(s:text=^'ab\u007f');class A{}");
        fault(1, "nonsense ; ; class class ^!");
        fault(1, "class A{} ' ' ^'");
        fault(2, "class A{field f=123456789^abc;}");
    }

    private static void standing() {
        fault(2, "^");
        fault(2, "  \n^");
        fault(2, "order t:a;^");
        fault(2, "class A{}^order t:a;");
        fault(2, "class A{}^kind k;");
        fault(2, "kind k;^order t:a;class A{}");
        fault(2, "maker ^class");
        fault(2, "order t:^;class A{}");
        fault(2, "order t:a<^;class A{}");
        fault(2, "order t:a,^;class A{}");
        fault(2, "order t:a ^b;class A{}");
        fault(2, "order ^order:a;");
        fault(2, "order t:^text;");
        fault(2, "kind k(^);class A{}");
        fault(2, "kind k(n:^number);class A{}");
        fault(2, "kind k(n:int,^);class A{}");
        fault(2, "kind k on^;class A{}");
        fault(2, "kind k many ^heirs;class A{}");
        fault(2, "kind k heirs ^on class;class A{}");
        fault(2, "kind k=^;class A{}");
        fault(2, "kind k;kind l=@^no k;class A{}");
        fault(2, "kind k;maker m:k ^@k;class A{}");
        fault(2, "kind k;maker m:k adds ^;class A{}");
        fault(2, "kind k;maker m:k adds @^no k;class A{}");
        fault(2, KIND + "class A @k(^){}");
        fault(2, KIND + "class A @k(n^,s='a'){}");
        fault(2, KIND + "class A @q^.a {}");
        fault(2, KIND + "class A @no q^(n=1){}");
        fault(2, ORDER + "class A{field f @t^;}");
        fault(2, ORDER + "class A{field f @no t^.a;}");
        fault(2, "class A{^method1;}");
        fault(2, "class A{field f=^;}");
        fault(2, "class A{field f=-^-1;}");
        fault(2, "class A{field f=-^'a';}");
        fault(2, "class A{method m(^,){ret;}}");
        fault(2, "class A{method m(a,^){ret;}}");
        fault(2, "class A{method m()^ret;}");
        fault(2, method("^"));
        fault(2, method("push 1;ret^"));
        fault(2, method("L:^L:ret;"));
        fault(2, method("L ^push 1;ret;"));
        fault(2, method("push 1 ^ret;"));
        fault(2, method("push ^;"));
        fault(2, ORDER + method("read @^no t;ret;"));
        fault(2, ORDER + method("push 1@^no t;ret;"));
        fault(2, method("get C^;"));
        fault(2, method("get C.^get;"));
        fault(2, ORDER + method("push 1;is t.a^;"));
        fault(2, "class A{^");
        fault(2, "class A{}^}");
    }

    private static void named() {
        fault(3, "order t:a;order ^t:a;class A{}");
        fault(3, "order t:a;kind ^t;class A{}");
        fault(3, "kind k;maker ^k:k adds @k;class A{}");
        fault(3, "kind k;class ^k{}");
        fault(3, "kind k;maker m:k adds @k;class ^m{}");
        fault(3, "class A{}class ^A{}");
        fault(3, "kind k(n:int,^n:text);class A{}");
        fault(3, "class A{field f;field ^f;}");
        fault(3, "class A{method m(){push 1;ret;}method ^m(){ret;}}");
        fault(3, "class A{method m(p,^p){ret;}}");
        fault(3, method("L:push 1;^L:ret;"));
        fault(3, KIND + "class A@k(n=1,^n=2){}");
        fault(3, ORDER + "class A{field f@t.a@^t.b;}");
        fault(3, ORDER + "class A{field f@t.a@no ^t;}");
        fault(3, KIND + "class A@q@^q{}");
        fault(3, KIND + "class A@no q@^q{}");
        fault(3, ORDER + method("push 1@t.a@^t.a;ret;"));
        right("class f{field f;method f(f){f:load f;ret;}}", 1);
        right(KIND + "class A@k(n=1)@k(n=1)@no k@no k{}", 1);
        right("order t:t<a;kind k(t:int);class A{field k;}", 1);
    }

    private static void ordered() {
        fault(4, "order ^t:a<b,b<a;class A{}");
        fault(4, "order ^t:a<b,b<c,c<a;class A{}");
        fault(4, "order ^t:a,b;class A{}");
        fault(4, "order ^t:a<b,a<c;class A{}");
        fault(4, "order ^t:a<c,b<c;class A{}");
        // Two below two others: four ELEMENTS between a BOTTOM and a TOP without one JOIN.
        fault(4, "order ^t:z<a,z<b,a<c,a<d,b<c,b<d,c<u,d<u;class A{}");
        fault(4, "order ^t:a,b;;;");
        fault(2, "order t:a,b^");
        right("order t:z<a,a<b,b<u,z<c,c<u;class A{}", 1);
    }

    private static void missing() {
        fault(5, "class A:^B{}");
        fault(5, "class A:^A{}");
        fault(5, "kind k;class A:^k{}");
        fault(5, "class A:^B{}class B{}");
        fault(5, "class A@^k{}");
        fault(5, "class A@no ^k{}");
        fault(5, "class B{}class A@^B{}");
        fault(5, "kind k=@^k;class A{}");
        fault(5, "kind k=@^l;kind l;class A{}");
        fault(5, "order t:a;maker m:^t adds @t.a;class A{}");
        fault(5, "maker m:^m adds @k;class A{}");
        fault(5, KIND + "class A@q(^n=1){}");
        fault(5, KIND + "class A@k(^m=1){}");
        fault(5, ORDER + "class A{field f@t.^d;}");
        fault(5, method("load ^x;ret;"));
        fault(5, method("jump L;load ^x;L:store x;"));
        fault(5, "class C{method m(p){load p;store q;load q;load ^m;ret;}}");
        fault(5, method("push 1;is ^t.a L;L:ret;"));
        fault(5, ORDER + KIND + method("push 1;is ^k.a L;L:ret;"));
        fault(5, ORDER + method("push 1;as t.^d;ret;"));
    }

    private static void tooMany() {
        fault(6, times(4, "order #:a;") + "order ^t:a;class Z{}");
        fault(6, times(12, "kind #;") + "kind ^k;class Z{}");
        fault(6, "kind k;" + times(6, "maker #:k adds @k;") + "maker ^m:k adds @k;class Z{}");
        fault(6, times(12, "class #{}") + "class ^Z{}");
        fault(6, "kind k(a:int,b:int,c:int,d:int,^e:int);class Z{}");
        fault(6, "class Z{" + times(8, "field #;") + "field ^f;}");
        fault(6, "class Z{" + times(8, "method #(){push 1;ret;}") + "method ^f(){ret;}}");
        fault(6, "class Z{method m(a,b,c,d,^e){ret;}}");
        fault(6, method(times(8, "push 1;store #;") + "push 1;store ^x;"));
        fault(6, "class Z{method m(a){" + times(7, "push 1;store #;") + "push 1;store a;push 1;store ^x;}}");
        fault(6, method(times(20, "push 1;pop;") + "^push 1;"));
        fault(6, method(times(20, "push 1;pop;") + "^L:push 1;"));
        fault(6, "kind k many;class A" + times(20, "@k") + "^@k{}");
        fault(6, "kind k many;class A" + times(20, "@no k") + "^@;{}");
        fault(6, "order t:" + times(12, "#,") + "^z;class Z{}");
        fault(6, "order t:" + times(11, "#,") + "x<^z;class Z{}");
        right("order t:a" + times(11, "<#,#") + ",a<A,a;class Z{}", 1);
        right(method(times(19, "push 1;pop;") + "push 1;ret;"), 1);
        right("kind k many;class A" + times(20, "@k") + "{}", 1);
    }

    private static void marksWrong() {
        fault(7, ORDER + "class A@^t.a{}");
        fault(7, ORDER + "class A@no ^t{}");
        fault(7, "kind k on field;class A@^k{}");
        fault(7, "kind k on field;class A@no ^k{}");
        fault(7, KIND + "class A{field f@^q;}");
        fault(7, KIND + "class A{method m(p@^q){ret;}}");
        fault(7, KIND + "class A{method m()@^q{ret;}}");
        fault(7, ORDER + "kind k;maker m:k adds @^t.a;class A{}");
        fault(7, "kind k on field;maker m:k adds @^k;class A{}");
        fault(7, KIND + method("push 1@^q;ret;"));
        fault(7, KIND + method("read@^q;ret;"));
        fault(7, KIND + "class A@^k{}");
        fault(7, KIND + "class A@^k(s='a'){}");
        fault(7, KIND + "class A@^k={}");
        fault(7, KIND + "class A@^k(s='a')=");
        fault(7, KIND + "kind l=@^k;class A{}");
        fault(7, KIND + "class A@k(n=^'a'){}");
        fault(7, KIND + "class A@k(n=1,s=^1){}");
        fault(7, KIND + "class A@k(n=1,s=^-1){}");
        fault(7, "kind k(n:int=^'a');class A{}");
        fault(7, "kind k(n:text=^5);class A{}");
        fault(7, "class A{field f=^'a';}");
        fault(7, method("push ^'a';ret;"));
        right(ORDER + "kind f on field;kind k=@t.a@f;class A@k{}", 1);
        right(KIND + "class A@no k{}", 1);
    }

    private static void laterNames() {
        fault(5, "class C{method m(){get ^D.f;ret;}method n(){get E.f;ret;}}");
        fault(5, "class C{field f;method m(){get C.^g;ret;}}");
        fault(5, "class C{field f;method m(){call C.^f;ret;}}");
        fault(5, "class C{method m(){get C.^m;ret;}}");
        fault(5, "kind k;class C{method m(){get ^k.f;ret;}}");
        fault(5, method("push 1;jump ^L;ret;"));
        fault(5, method("push 1;zero ^m;ret;"));
        fault(5, "class C{field f;}class D{method m(){get D.^f;ret;}}");
        fault(5, "class A{method m(){jump ^L;}method n(){L:push 1;ret;}}");
        // What stands ahead of all such: any FAULT of the reading itself, even far behind.
        fault(3, "class C{method m(){get D.f;ret;}}class ^C{}");
        // Ahead of what is wrong with DEPTHS.
        fault(5, "class C{method m(){ret;}method n(){get ^D.f;ret;}}");
        right("class C{method m(){get D.f;ret;}}class B{field f;}class D:B{}", 3);
    }

    private static void depths() {
        fault(8, method("^ret;"));
        fault(8, method("^L:ret;"));
        fault(8, method("push 1;^add;ret;"));
        fault(8, method("push 1;pop;^dup;ret;"));
        fault(8, method(times(8, "push 1;") + "^push 1;ret;"));
        fault(8, method(times(8, "push 1;") + "^dup;ret;"));
        fault(8, method("^push 1;"));
        fault(8, method("push 1;^X:pop;"));
        fault(8, method("push 1;zero L;push 1;^L:ret;"));
        fault(8, method("^L:push 1;jump L;"));
        fault(8, method("push 1;^L:push 1;zero M;push 2;jump L;M:ret;"));
        fault(8, "class C{method m(){^call C.n;ret;}method n(p){load p;ret;}}");
        fault(8, "class C{method m(){" + times(8, "push 1;") + "^call C.n;ret;}method n(){push 1;ret;}}");
        // METHOD by METHOD, and the lowest ACT that was come to first.
        fault(8, "class C{method m(){push 1;zero L;push 1;ret;^L:pop;ret;}method n(){ret;}}");
        fault(8, method("push 1;jump M;^L:ret;M:zero L;add;ret;"));
        right(method("push 1;ret;add;add;"), 1);
        right(method(times(8, "push 1;") + "add;ret;"), 1);
        right(method("L:push 1;pop;jump L;"), 1);
    }

    private static void precedence() {
        // At one LEXEME 2 is ahead of 5, 5 of 3, 3 of 6, 6 of 7.
        fault(3, times(4, "order #:a;") + "order ^A:a;class Z{}");
        fault(3, times(12, "class #{}") + "class ^A{}");
        fault(3, "class Z{method m(a,b,c,d,^d){ret;}}");
        fault(3, method("L:push 1;pop;" + times(19, "push 1;pop;") + "^L:push 1;"));
        fault(2, method(times(20, "push 1;pop;") + "^@"));
        fault(3, "kind k on class;class A@k@^k{}");
        fault(3, "kind k(n:int);class A@k(n=1)@^k{}");
        fault(2, times(4, "order #:a;") + "order ^:a;class Z{}");
        fault(5, KIND + "class A@k(n=1,^m=2,m=3){}");
        // A MARK whose KIND can't stand there is met at its NAME, ahead of what is in ( ).
        fault(7, "kind k(n:int)on field;class A@^k(x=1){}");
        // The text's end counts blanks too.
        fault(2, "class A{   \n ^");
    }
}
