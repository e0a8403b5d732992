/** Promises 7 to 9: tell, size, order. */
public final class TellTest {
    public static void main(String[] args) {
        told();
        toldOrders();
        toldMarks();
        sizes();
        orders();
        Due.close();
    }

    private static void tells(String text, String told) {
        Due d = Due.with(text, text);
        d.is("tell", d.x.tell(), told.length());
        d.is("the out", d.out(), told);
        Due again = Due.with("what was told of " + text, told);
        again.is("tell", again.x.tell(), told.length());
        again.is("told again", again.out(), told);
    }

    private static void told() {
        tells("class A{}", "class A { }");
        tells("class A{}class B:A{}", "class A { } class B : A { }");
        tells("class A{method m(){push - 0;ret;}field f=0;field g=-007;field h=12;}",
                "class A { field f ; field g = - 7 ; field h = 12 ; method m ( ) { push 0 ; ret ; } }");
        tells("kind k on param class method;kind l on class method field param;kind m heirs;kind n many;class A{}",
                "kind k on class method param ; kind l ; kind m heirs ; kind n many ; class A { }");
        tells("kind k(n:int=-3,s:text='',t:text)on field heirs many;kind l=@k(t=' a ',n=1)@k(t='b');maker M:l adds @l;class A{}",
                "kind k ( n : int = - 3 , s : text = '' , t : text ) on field heirs many ;"
                + " kind l = @ k ( n = 1 , t = ' a ' ) @ k ( t = 'b' ) ; maker M : l adds @ l ; class A { }");
        tells("order o:a<b;class A{method m(p,q@o.b)@o.a{L:load p;store z;M:push -5@o.b;zero L;read@o.a;is o.b N;N:as o.a;"
                + "get B.f;set A.f;dup;call B.m;call A.r;add;dup;sub;dup;mul;pop;jump M;ret;}field f;method r(){read;ret;}}class B:A{}",
                "order o : a , b , a < b ; class A { field f ; method m ( p , q @ o . b ) @ o . a { L : load p ; store z ;"
                + " M : push - 5 @ o . b ; zero L ; read @ o . a ; is o . b N ; N : as o . a ; get B . f ; set A . f ; dup ;"
                + " call B . m ; call A . r ; add ; dup ; sub ; dup ; mul ; pop ; jump M ; ret ; }"
                + " method r ( ) { read ; ret ; } } class B : A { }");
    }

    private static void toldOrders() {
        tells("order o:a<c,a<b,b<c,c<d;class A{}", "order o : a , c , b , d , a < b , c < d , b < c ; class A { }");
        tells("order o:x;class A{}", "order o : x ; class A { }");
        tells("order o:u<t,d<l,l<u,d<r,r<u;class A{}",
                "order o : u , t , d , l , r , u < t , d < l , d < r , l < u , r < u ; class A { }");
        tells("order o:a<a,a<b;class A{}", "order o : a , b , a < b ; class A { }");
    }

    private static void toldMarks() {
        Due d = Due.with("MARKS told", "order o:a<b;kind k(n:int,s:text='x');kind m many;class A{field f;}");
        // k with s ahead of n, an unknown NAME, two of m, o, a WARPED k does not stand twice.
        d.feed(new byte[] {5, 1, 'k', 3, 1, 's', 2, 1, 'y', 1, 'z', 2, 0, 1, 'n', 1, -1, -1, -1, -2,
            1, 'u', 0, 1, 'm', (byte) 255, 1, 'm', 0, 1, 'o', 1, 2, 'a', 't', 3, 1, 'b'});
        d.is("give", d.x.give(1), 5);
        d.x.tell();
        String front = "order o : a , b , a < b ; kind k ( n : int , s : text = 'x' ) ; kind m many ; class A { field f";
        d.is("told", d.out(), front + " @ k ( n = - 2 , s = 'y' ) @ no m @ m @ o . b ; }");
        d.feed(new byte[] {2, 1, 'k', 1, 1, 'n', 2, 0, 1, 'o', 1, 2, 'a', 't', 2, 1, 'b'});
        d.is("give", d.x.give(1), 2);
        d.x.tell();
        d.is("WARPED ones are not told", d.out(), front + " ; }");
        d.feed(new byte[] {1, 1, 'k', 0});
        d.is("give", d.x.give(1), 1);
        d.x.tell();
        d.is("MISSING ones are not told", d.out(), front + " ; }");
        d.feed(new byte[] {3, 1, 'o', (byte) 255, 1, 'm', 0, 1, 'o', (byte) 255});
        d.is("give", d.x.give(1), 3);
        d.x.tell();
        d.is("what stands twice is not told", d.out(), front + " @ m ; }");
    }

    private static void sizes() {
        Due d = Due.with("size", "order o:a<b;order p:x;kind k(n:int,s:text);kind l;maker M:l adds @l;"
                + "class A @l{field f;method m(p,q){load p;ret;}}class B{method n(){push 1;pop;push 1;ret;}}class C{}");
        int[] all = {2, 2, 1, 3};
        for (int what = 0; what < 4; what++) {
            d.is("size(" + what + ", 99)", d.x.size(what, 99), all[what]);
        }
        d.is("ELEMENTS", d.x.size(4, 0), 2);
        d.is("ELEMENTS", d.x.size(4, 1), 1);
        d.is("ELEMENTS of none", d.x.size(4, 2), -1);
        d.is("ELEMENTS of none", d.x.size(4, -1), -1);
        d.is("MEMBERS", d.x.size(5, 0), 2);
        d.is("MEMBERS", d.x.size(5, 1), 0);
        d.is("MEMBERS of none", d.x.size(5, 2), -1);
        d.is("FIELDS", d.x.size(6, 0), 1);
        d.is("FIELDS of none", d.x.size(6, 3), -1);
        d.is("METHODS", d.x.size(7, 0), 1);
        d.is("METHODS", d.x.size(7, 1), 1);
        d.is("METHODS", d.x.size(7, 2), 0);
        d.is("METHODS of none", d.x.size(7, -1), -1);
        d.is("METHODS of none", d.x.size(7, 3), -1);
        d.is("PARAMETERS", d.x.size(8, 20), 2);
        d.is("PARAMETERS", d.x.size(8, 120), 0);
        d.is("PARAMETERS of a PARAMETER", d.x.size(8, 21), -1);
        d.is("PARAMETERS of a CLASS", d.x.size(8, 0), -1);
        d.is("ACTS", d.x.size(9, 120), 4);
        d.is("ACTS of none", d.x.size(9, 30), -1);
        d.is("OWN MARKS", d.x.size(10, 0), 1);
        int[] none = {2, 9, 19, 23, 30, 99, 101, 300, 1200, -1, -100, Integer.MIN_VALUE, Integer.MAX_VALUE};
        for (int place : none) {
            d.is("OWN MARKS at " + place, d.x.size(10, place), -1);
        }
        int[] there = {1, 20, 21, 22, 100, 120, 200};
        for (int place : there) {
            d.is("OWN MARKS at " + place, d.x.size(10, place), 0);
        }
        d.is("size(11, 0)", d.x.size(11, 0), -1);
        d.is("size(-1, 0)", d.x.size(-1, 0), -1);
    }

    private static void orders() {
        Due d = Due.with("order", "order o:z<a,a<b,b<u,z<c,c<u;class A{}");
        // z 0, a 1, b 2, u 3, c 4
        d.is("below itself", d.x.order(0, 1, 1, 0), 1);
        d.is("below by two", d.x.order(0, 0, 3, 0), 1);
        d.is("not below", d.x.order(0, 2, 1, 0), 0);
        d.is("not below", d.x.order(0, 4, 2, 0), 0);
        d.is("join", d.x.order(0, 1, 4, 1), 3);
        d.is("join", d.x.order(0, 1, 2, 1), 2);
        d.is("join of one", d.x.order(0, 4, 4, 1), 4);
        d.is("meet", d.x.order(0, 2, 4, 2), 0);
        d.is("meet", d.x.order(0, 2, 1, 2), 1);
        d.is("no ORDER", d.x.order(1, 0, 0, 0), -1);
        d.is("no ORDER", d.x.order(-1, 0, 0, 0), -1);
        d.is("no ELEMENT", d.x.order(0, 5, 0, 0), -1);
        d.is("no ELEMENT", d.x.order(0, 0, -1, 0), -1);
        d.is("no ELEMENT", d.x.order(0, 0, 5, 0), -1);
        d.is("no ELEMENT", d.x.order(0, -1, 0, 1), -1);
        d.is("no what", d.x.order(0, 0, 0, 3), -1);
        d.is("no what", d.x.order(0, 0, 0, -1), -1);
    }
}
