/** Promises 10 to 17: mark, give, file, effective, whence, ask, markOf, rounds. */
public final class MarkTest {
    private static final byte NO = (byte) 255;

    public static void main(String[] args) {
        ownMarks();
        givenFiles();
        wrongFiles();
        countingMarks();
        heirs();
        gives();
        clashes();
        asked();
        theMark();
        makers();
        Due.close();
    }

    private static byte[] bytes(Object... parts) {
        return Due.bytes(parts);
    }

    private static int give(Due d, int place, Object... parts) {
        return d.give(place, parts);
    }

    private static String mark(Due d, int place, int i) {
        return d.mark(place, i);
    }

    private static String whence(Due d, int place, int kind) {
        return d.whence(place, kind);
    }

    private static void ownMarks() {
        Due d = Due.with("mark", "order o:a<b;kind k(n:int,s:text='x');class A@no k{field f@o.b@k(s='y',n=1);}");
        d.is("no k", mark(d, 0, 0), "0 1 1 0");
        d.is("o", mark(d, 1, 0), "100 1 0 1");
        d.is("k", mark(d, 1, 1), "0 1 0 2");
        d.is("none", mark(d, 1, 2), "-1 -1 -1 -1");
        d.is("none", mark(d, 1, -1), "-1 -1 -1 -1");
        d.is("no PLACE", mark(d, 2, 0), "-1 -1 -1 -1");
        d.is("no what", d.x.mark(1, 0, 4), -1);
        d.is("no what", d.x.mark(1, 0, -1), -1);
        d.is("file", d.x.file(1), 25);
        d.is("the out", d.out(), "\2\1o\1\2at\3\1b\1k\2\1s\2\1y\1n\1\0\0\0\1");
        d.is("file of no", d.x.file(0), 4);
        d.is("the out", d.out(), "\1\1k\u00ff");
        d.is("no PLACE", d.x.file(100), -1);
    }

    private static void givenFiles() {
        Due d = Due.with("give", "order o:a<b;kind k(n:int,s:text='x');class A{field f;method m(p){load p;ret;}}");
        d.is("none", give(d, 1, 0), 0);
        d.is("all sorts", give(d, 1, 3, "k", 4, "n", 1, 0x80, 0, 0, 0, "s", 2, "", "k", 3, "class", "z", 2, "a b", "o", NO, "order", 0), 3);
        d.is("size", d.x.size(10, 1), 3);
        d.is("k", mark(d, 1, 0), "0 1 0 4");
        d.is("no o", mark(d, 1, 1), "100 1 1 0");
        d.is("another NAME", mark(d, 1, 2), "-1 0 0 0");
        d.is("the tape is empty", d.x.end(1), -1);
        d.is("file", d.x.file(1), bytes(3, "k", 4, "n", 1, 0x80, 0, 0, 0, "s", 2, "", "k", 3, "class", "z", 2, "a b", "o", NO, "order", 0).length);
        d.is("its number", d.x.ask(1, 0, 0, 0), 1);
        d.is("the lowest int", d.out(), "-2147483648");
        d.feed("x");
        d.is("no PLACE", d.x.give(2), -1);
        d.is("takes the tape too", d.x.end(1), -1);
        Object[] twenty = new Object[41];
        twenty[0] = 20;
        for (int k = 0; k < 20; k++) {
            twenty[2 * k + 1] = "k";
            twenty[2 * k + 2] = 0;
        }
        d.is("twenty", give(d, 21, twenty), 20);
        d.is("one is gone again", give(d, 21, 1, "k", 0), 1);
        d.is("the others stay", d.x.size(10, 1), 3);
        Due first = Due.with("the first MARK of all", "kind k;class A{}");
        first.is("no k", give(first, 0, 1, "k", NO), 1);
        first.is("no k", mark(first, 0, 0), "0 1 1 0");
    }

    private static void wrongFiles() {
        Due d = Due.with("give, wrong", "kind k(n:int);class A@k(n=1){}");
        d.x.weave();
        d.is("wire", d.x.wire(), 0);
        d.is("nothing", give(d, 0), -1000);
        d.is("21", give(d, 0, 21), -1000);
        d.is("no MARK", give(d, 0, 1), -1001);
        d.is("an empty NAME", give(d, 0, 1, 0), -1001);
        d.is("a long NAME", give(d, 0, 1, 9), -1001);
        d.is("a digit first", give(d, 0, 1, "1"), -1002);
        d.is("a digit then", give(d, 0, 1, "a1"), -1004);
        d.is("another sign", give(d, 0, 1, "a_"), -1003);
        d.is("five PAIRS", give(d, 0, 1, "k", 5), -1003);
        d.is("254", give(d, 0, 1, "k", 254), -1003);
        d.is("no PAIR", give(d, 0, 1, "k", 1), -1004);
        d.is("no sort", give(d, 0, 1, "k", 1, "n"), -1006);
        d.is("sort 0", give(d, 0, 1, "k", 1, "n", 0), -1006);
        d.is("sort 4", give(d, 0, 1, "k", 1, "n", 4), -1006);
        d.is("a short number", give(d, 0, 1, "k", 1, "n", 1, 0, 0, 0), -1010);
        d.is("a long text", give(d, 0, 1, "k", 1, "n", 2, 9), -1007);
        d.is("a wrong sign", give(d, 0, 1, "k", 1, "n", 2, "a'"), -1009);
        d.is("a wrong sign", give(d, 0, 1, "k", 1, "n", 2, "\u007f"), -1008);
        d.is("a wrong sign", give(d, 0, 1, "k", 1, "n", 2, "\u001f"), -1008);
        d.is("a text's end", give(d, 0, 1, "k", 1, "n", 2, 2, 97), -1009);
        d.is("an empty NAME", give(d, 0, 1, "k", 1, "n", 3, ""), -1007);
        d.is("one more byte", give(d, 0, 1, "k", 0, 0), -1004);
        d.is("one more byte", give(d, 0, 0, 0), -1001);
        d.is("nothing was changed", d.x.file(0), 11);
        d.is("the out", d.out(), "\1\1k\1\1n\1\0\0\0\1");
        d.is("the tape is empty", d.x.end(1), -1);
    }

    private static void countingMarks() {
        Due d = Due.with("COUNTS", "order o:a<b;kind k;kind m many;kind c on class;class A{field f;}");
        d.is("give", give(d, 1, 6, "k", 0, "m", 0, "k", NO, "m", NO, "c", 0, "A", 0), 6);
        d.is("k twice", mark(d, 1, 0), "0 0 0 0");
        d.is("m twice", mark(d, 1, 1), "1 1 0 0");
        d.is("no k", mark(d, 1, 2), "0 0 1 0");
        d.is("no m", mark(d, 1, 3), "1 1 1 0");
        d.is("c at a FIELD", mark(d, 1, 4), "2 0 0 0");
        d.is("a CLASS's NAME", mark(d, 1, 5), "-1 0 0 0");
        d.is("k", d.x.effective(1, 0), 0);
        d.is("m, the no beside it does nothing", d.x.effective(1, 1), 1);
        d.is("c", d.x.effective(1, 2), 0);
        d.is("give", give(d, 0, 2, "o", 1, "at", 3, "a", "k", 0), 2);
        d.is("an ORDER at a CLASS", mark(d, 0, 0), "100 0 0 1");
        d.is("effective", d.x.effective(0, 100), 0);
        d.is("k once", mark(d, 0, 1), "0 1 0 0");
    }

    private static void heirs() {
        Due d = Due.with("heirs", "order o:a<b;kind h heirs many;kind p;"
                + "class A@h@h@p{field f@h;method m(x@o.a,y@h)@o.b{load x;ret;}}"
                + "class B:A{field f;method m(u,v){load u;ret;}method n(){push 1;ret;}}"
                + "class C:B@no h{method m(u){load u;ret;}}"
                + "class D:C{method m(x,y@no h)@h{load x;ret;}}");
        d.is("OWN ones", d.x.effective(0, 0), 2);
        d.is("from the PARENT", d.x.effective(100, 0), 2);
        d.is("whence", whence(d, 100, 0), "0 1 0 0");
        d.is("no heirs", d.x.effective(100, 1), 0);
        d.is("whence of nothing", whence(d, 100, 1), "-1 -1 -1 -1");
        d.is("no", d.x.effective(200, 0), 0);
        d.is("behind a no", d.x.effective(300, 0), 0);
        d.is("FIELDS have none above", d.x.effective(101, 0), 0);
        d.is("a METHOD's ORDER", d.x.effective(120, 100), 1);
        d.is("whence", whence(d, 120, 100), "20 1 0 0");
        d.is("a PARAMETER's", whence(d, 121, 100), "21 1 0 0");
        d.is("a PARAMETER's KIND", whence(d, 122, 0), "22 1 0 0");
        d.is("fewer PARAMETERS", d.x.effective(220, 100), 0);
        d.is("fewer PARAMETERS", d.x.effective(220, 0), 0);
        d.is("the nearest has fewer", d.x.effective(320, 100), 0);
        d.is("no METHOD above", d.x.effective(130, 100), 0);
        d.is("no at a PARAMETER", d.x.effective(322, 0), 0);
        d.is("OWN at a METHOD", whence(d, 320, 0), "320 0 0 0");
        d.is("no such KIND", d.x.effective(0, 2), -1);
        d.is("no such KIND", d.x.effective(0, -1), -1);
        d.is("no such ORDER", d.x.effective(0, 101), -1);
        d.is("no such ORDER", d.x.effective(0, 99), -1);
        d.is("no such PLACE", d.x.effective(123, 0), -1);
        d.is("no what", d.x.whence(0, 0, 4), -1);
        d.is("no what", d.x.whence(0, 0, -1), -1);
        d.is("no such PLACE", d.x.whence(400, 0, 0), -1);
    }

    private static void gives() {
        Due d = Due.with("gives", "order o:a<b;kind x(n:int=0)on class heirs many;"
                + "kind k1=@x(n=1)@x(n=2)@o.a;kind k2=@k1@x(n=5);kind k3=@k1@k2;"
                + "class A@k1{field f@k2;method m(p@k3)@k1{load p;ret;}}class B:A{}class C:A@no x{}class D:A@no k1{}class E@x@k1{}");
        d.is("one is GIVEN", d.x.effective(0, 0), 1);
        d.is("whence", whence(d, 0, 0), "0 0 1 0");
        d.is("the first one", d.x.ask(0, 0, 0, 0), 1);
        d.is("the out", d.out(), "1");
        d.is("an ORDER at a CLASS", whence(d, 0, 100), "0 0 1 0");
        d.is("where it can't stand", whence(d, 1, 0), "1 0 1 0");
        d.is("its own ahead of in turn", d.x.ask(1, 0, 0, 0), 1);
        d.is("the out", d.out(), "5");
        d.is("in turn", d.x.ask(21, 0, 0, 0), 1);
        d.is("the out", d.out(), "1");
        d.is("in turn an ORDER", d.x.markOf(21, 0), 0);
        d.is("and it is THE MARK", d.x.markOf(20, 0), 0);
        d.is("GIVEN above", whence(d, 100, 0), "0 1 1 0");
        d.is("no ahead of GIVEN", d.x.effective(200, 0), 0);
        d.is("no KIND that gives: the PARENT's", whence(d, 300, 0), "0 1 1 0");
        d.is("OWN ahead of GIVEN", whence(d, 400, 0), "400 0 0 0");
        d.is("what a KIND gives is not it itself", d.x.effective(1, 1), 1);
    }

    private static void clashes() {
        Due d = Due.with("clash", "order o:a<b;kind x(n:int=0,s:text='');"
                + "kind p=@x(n=1)@o.a;kind q=@x(s='',n=1)@o.b;kind r=@x(n=1,s='u');kind e;"
                + "class A@p@q{}class B@p@e@r{}class C:B{}class D@q@p@r{}class E@p{}class F@r@p{}");
        d.is("VALUES alike, a default too", whence(d, 0, 0), "0 0 1 0");
        d.is("another ELEMENT", whence(d, 0, 100), "0 0 1 1");
        d.is("another VALUE", whence(d, 100, 0), "100 0 1 1");
        d.is("not heirs", d.x.effective(200, 0), 0);
        d.is("ORDERS pass on", whence(d, 200, 100), "100 1 1 0");
        d.is("the third", whence(d, 300, 0), "300 0 1 1");
        d.is("a lone one", whence(d, 400, 0), "400 0 1 0");
        d.is("the other way round", whence(d, 500, 0), "500 0 1 1");
        d.is("E", give(d, 400, 3, "p", 0, "r", 0, "x", 0), 3);
        d.is("OWN ones never", whence(d, 400, 0), "400 0 0 0");
        d.is("E", give(d, 400, 3, "p", 0, "r", 0, "r", 0), 3);
        d.is("what does not COUNT gives nothing", whence(d, 400, 0), "400 0 1 0");
    }

    private static void asked() {
        Due d = Due.with("ask", "order o:low<high;kind k(n:int,s:text='x',t:text)many;"
                + "class A@k(n=-12,t='')@k(t='a b',n=0){field f@o.high;}");
        d.is("n", d.x.ask(0, 0, 0, 0), 1);
        d.is("the out", d.out(), "-12");
        d.is("s by default", d.x.ask(0, 0, 0, 1), 2);
        d.is("the out", d.out(), "x");
        d.is("an empty t", d.x.ask(0, 0, 0, 2), 2);
        d.is("the out", d.out(), "");
        d.is("the second one", d.x.ask(0, 0, 1, 2), 2);
        d.is("the out", d.out(), "a b");
        d.is("0", d.x.ask(0, 0, 1, 0), 1);
        d.is("the out", d.out(), "0");
        d.is("an ELEMENT", d.x.ask(1, 100, 0, 0), 3);
        d.is("the out", d.out(), "high");
        d.is("give", give(d, 1, 1, "o", 1, "at", 3, "low"), 1);
        d.is("the first ELEMENT", d.x.ask(1, 100, 0, 0), 3);
        d.is("the out", d.out(), "low");
        d.is("no MEMBER", d.x.ask(0, 0, 0, 3), -1);
        d.is("no MEMBER", d.x.ask(0, 0, 0, -1), -1);
        d.is("no MEMBER", d.x.ask(1, 100, 0, 1), -1);
        d.is("no MARK", d.x.ask(0, 0, 2, 0), -1);
        d.is("no MARK", d.x.ask(0, 0, -1, 0), -1);
        d.is("no KIND", d.x.ask(0, 1, 0, 0), -1);
        d.is("no PLACE", d.x.ask(2, 0, 0, 0), -1);
        d.is("give", give(d, 0, 1, "k", 3, "n", 2, "5", "s", 3, "x", "s", 2, "y"), 1);
        d.is("WARPED", d.x.ask(0, 0, 0, 0), -2);
        d.is("WARPED, the first PAIR counts", d.x.ask(0, 0, 0, 1), -2);
        d.is("MISSING", d.x.ask(0, 0, 0, 2), -3);
        d.is("THE OUT stays", d.out(), "low");
        d.is("give", give(d, 1, 1, "o", 1, "at", 2, "high"), 1);
        d.is("WARPED", d.x.ask(1, 100, 0, 0), -2);
        d.is("give", give(d, 1, 1, "o", 2, "x", 3, "high", "at", 3, "mid"), 1);
        d.is("no ELEMENT", d.x.ask(1, 100, 0, 0), -2);
        d.is("give", give(d, 1, 1, "o", 0), 1);
        d.is("no PAIR", d.x.ask(1, 100, 0, 0), -2);
    }

    private static void theMark() {
        Due d = Due.with("markOf", "order o:a<b,b<c;order p:x<y;class A{field f@o.a;field g;method m(q@p.x)@o.b{load q;ret;}}");
        d.is("told", d.x.markOf(1, 0), 0);
        d.is("TOP", d.x.markOf(1, 1), 1);
        d.is("TOP", d.x.markOf(2, 0), 2);
        d.is("a METHOD's", d.x.markOf(20, 0), 1);
        d.is("a PARAMETER's", d.x.markOf(21, 1), 0);
        d.is("a CLASS has none", d.x.markOf(0, 0), -1);
        d.is("no PLACE", d.x.markOf(3, 0), -1);
        d.is("no ORDER", d.x.markOf(1, 2), -1);
        d.is("no ORDER", d.x.markOf(1, -1), -1);
        d.is("give", give(d, 1, 1, "o", 1, "at", 2, "a"), 1);
        d.is("WARPED: TOP counts", d.x.markOf(1, 0), 2);
        d.is("find", d.x.find(0), 2);
        d.is("which is EFFECTIVE", d.x.markOf(1, 0), 2);
        d.is("FOUND", d.x.markOf(2, 0), 0);
        d.is("give", give(d, 2, 1, "o", 1, "at", 3, "c"), 1);
        d.is("find", d.x.find(0), 1);
        d.is("told now", d.x.markOf(2, 0), 2);
        d.is("give", give(d, 2, 0), 0);
        d.is("what was FOUND is there still", d.x.markOf(2, 0), 0);

        Due never = Due.with("never FOUND", "order o:a<b,b<c;class A{field f@o.a;method m(){push 1@o.b;set A.f;push 1;ret;}}");
        never.is("find", never.x.find(0), 1);
        never.is("give", give(never, 1, 0), 0);
        never.is("TOP, for FINDING did not look for it", never.x.markOf(1, 0), 2);
        Due once = Due.with("FOUND once", "order o:a<b,b<c;class A{field g;field h@o.a;method m()@o.a{get A.h;set A.g;push 1;ret;}}");
        once.is("find", once.x.find(0), 1);
        once.is("g", once.x.markOf(1, 0), 0);
        once.is("give", give(once, 1, 1, "o", 1, "at", 3, "a"), 1);
        once.is("give", give(once, 2, 1, "o", 1, "at", 3, "c"), 1);
        once.is("find", once.x.find(0), 0);
        once.is("give", give(once, 1, 0), 0);
        once.is("as it was FOUND when it was looked for", once.x.markOf(1, 0), 0);
    }

    private static void makers() {
        Due d = Due.with("rounds", "kind a heirs;kind b(n:int=0)many;kind c;kind e;kind g=@c;"
                + "maker M:a adds @b(n=1)@b(n=2)@g;maker N:c adds @e;"
                + "class A@a{}class B:A@no b{}class C{}class D@b@e@c{}");
        d.is("rounds", d.x.rounds(), 2);
        // A: a, then b once and g in the first ROUND, e (for g gives c) in the second.
        d.is("A", d.x.size(10, 0), 4);
        d.is("b", mark(d, 0, 1), "1 1 0 1");
        d.is("its VALUE", d.x.ask(0, 1, 0, 0), 1);
        d.is("the out", d.out(), "1");
        d.is("g", mark(d, 0, 2), "4 1 0 0");
        d.is("e", mark(d, 0, 3), "3 1 0 0");
        d.is("B has no b", d.x.size(10, 100), 3);
        d.is("no b", mark(d, 100, 0), "1 1 1 0");
        d.is("C", d.x.size(10, 200), 0);
        d.is("D", d.x.size(10, 300), 3);
        d.is("nothing more comes", d.x.rounds(), 0);

        Due full = Due.with("full rows", "kind a many;kind b;kind c;maker M:a adds @b@c;class A{}class B{}");
        Object[] nineteen = new Object[39];
        nineteen[0] = 19;
        for (int k = 0; k < 19; k++) {
            nineteen[2 * k + 1] = "a";
            nineteen[2 * k + 2] = 0;
        }
        full.is("give", give(full, 0, nineteen), 19);
        full.is("rounds", full.x.rounds(), 1);
        full.is("one came", full.x.size(10, 0), 20);
        full.is("b", mark(full, 0, 19), "1 1 0 0");
        full.is("B", full.x.size(10, 100), 0);
        full.is("rounds", full.x.rounds(), 0);

        Due late = Due.with("a ROUND sees what was", "kind a;kind b;kind c;maker N:b adds @c;maker M:a adds @b;class A@a{}");
        late.is("rounds", late.x.rounds(), 2);
        late.is("b ahead of c", mark(late, 0, 1), "1 1 0 0");
        Due order = Due.with("not in the same ROUND", "kind a;kind b;kind c;maker M:a adds @b;maker N:b adds @c;class A@a{}");
        order.is("rounds", order.x.rounds(), 2);
    }
}
