import java.util.Arrays;

/** The most there can be of things, all at once, and programs that follow one another in one house. */
public final class FullestTest {
    public static void main(String[] args) {
        manyLexemes();
        fullTapeEnds();
        lastPlaces();
        heirsOfTheLast();
        toldWhole();
        toldMembersAndElements();
        oneAheadOfAnother();
        manyActs();
        twelveClassesOfMarks();
        fortyActs();
        fourOrders();
        sixteenChecks();
        manyMarks();
        Due.close();
    }

    private static void manyLexemes() {
        Due.faultAt("4000 LEXEMES", 2, 0, ";".repeat(4000));
        Due.faultAt("3999 LEXEMES", 2, 0, ";".repeat(3999));
        Due.faultAt("4000 signs, the last one wrong", 1, 3999, ";".repeat(3999) + "#");
        // Each MARK is two LEXEMES of a byte each: 20 at each of 80 FIELDS.
        StringBuilder text = new StringBuilder("kind k many;");
        int classes = 0;
        for (char c = 'A'; c < 'K'; c++) {
            text.append("class ").append(c).append("{").append(Due.times(8, "field #" + "@k".repeat(20) + ";")).append("}");
            classes++;
        }
        Due d = Due.right("the most LEXEMES of a program", text.toString(), classes);
        d.is("the last one", d.x.effective(908, 0), 20);
        d.is("the first one", d.x.effective(1, 0), 20);
    }

    private static void fullTapeEnds() {
        String blanks = " ".repeat(3990);
        Due.faultAt("a full TAPE ends in a TEXT", 1, 3990, blanks + "'abcdefgh ");
        Due.faultAt("a full TAPE ends in a TEXT", 1, 3999, blanks + "class A{}'");
        Due.faultAt("a full TAPE ends in a NAME", 2, 3990, blanks + "abcdefgh x");
        Due.faultAt("a full TAPE ends in a NUMBER", 2, 3991, blanks + " 123456789");
        Due.faultAt("a full TAPE ends in a NUMBER that is too long", 1, 3990, blanks + "1234567890");
        Due d = new Due("a full TAPE is a FILE");
        d.feed("class A{}");
        d.compile();
        byte[] file = new byte[4000];
        Arrays.fill(file, (byte) 1);
        d.feed(file);
        d.is("give", d.x.give(0), -1002);
        Arrays.fill(file, (byte) 255);
        file[0] = 0;
        d.feed(file);
        d.is("give", d.x.give(0), -1001);
    }

    /** Twelve CLASSES; the first and the last have all that a CLASS can have. */
    private static String twelve(String parent) {
        String full = "{" + Due.times(8, "field #;") + Due.times(8, "method #(p,q,r,s){load s;ret;}") + "}";
        StringBuilder text = new StringBuilder("order w:x<y;order o:x<y;order p:x<y;order q:y<z,x<y;class A" + full);
        for (char c = 'B'; c < 'L'; c++) {
            text.append("class ").append(c).append(parent.replace("#", Character.toString((char) (c - 1)))).append("{field ").append(c).append(";}");
        }
        return text + "class L" + parent.replace("#", "K") + full;
    }

    private static void lastPlaces() {
        Due d = Due.with("the last PLACES", twelve(""));
        int[] places = {1, 8, 20, 24, 90, 94, 1001, 1101, 1108, 1120, 1124, 1180, 1184, 1190, 1191, 1194};
        for (int order = 0; order < 4; order++) {
            for (int place : places) {
                d.is("TOP at " + place, d.x.markOf(place, order), 1);
            }
        }
        d.is("find", d.x.find(3), 2 * 48 + 10);
        for (int place : places) {
            d.is("FOUND at " + place, d.x.markOf(place, 3), 2);
            d.is("of another ORDER", d.x.markOf(place, 2), 1);
        }
        d.is("give", d.give(1194, 1, "q", 1, "at", 3, "y"), 1);
        d.is("told at 1194", d.x.markOf(1194, 3), 0);
        d.is("not at 1193", d.x.markOf(1193, 3), 2);
        d.is("flow", d.x.flow(3), 1);
        d.is("error", d.error(0), "1190 1 0 0 2");
        d.is("find", d.x.find(3), 2 * 48 + 9);
        d.is("what comes to the last METHOD", d.x.markOf(1190, 3), 0);
        d.is("plain", d.x.plain(3), true);
        d.is("TOP", d.x.markOf(1190, 3) + " " + d.x.markOf(1193, 3) + " " + d.x.markOf(1194, 3), "1 1 0");
        d.is("weave", d.x.weave(), 0);
        d.is("wire", d.x.wire(), 0);
        d.is("rounds", d.x.rounds(), 0);
        d.x.argument(3, 77);
        d.begin(1190, true);
        d.is("go", d.go(9), "2");
        d.is("run", d.x.run(1) + " " + d.x.run(3), "77 1190");
    }

    private static void heirsOfTheLast() {
        Due d = Due.with("what passes to the last heirs", twelve(":#"));
        d.is("give", d.give(94, 1, "q", 1, "at", 3, "x"), 1);
        d.is("give", d.give(90, 1, "p", 1, "at", 3, "x"), 1);
        d.is("a PARAMETER", d.whence(1194, 103), "94 1 0 0");
        d.is("a METHOD", d.whence(1190, 102), "90 1 0 0");
        d.is("its MARK", d.x.markOf(1190, 2), 0);
        // FIELDS have none above, though their PARENT has eight METHODS with MARKS.
        for (int field = 101; field < 1102; field += 100) {
            d.is("FIELD " + field, d.x.effective(field, 102) + " " + d.x.effective(field, 103), "0 0");
        }
        Due run = Due.with("FIELDS of the last CLASS", twelve(":#").replace("class L:K{field A;field B;", "class L:K{field A=5;field B;")
                .replace("method H(p,q,r,s){load s;ret;}}", "method H(p,q,r,s){get L.A;push 3;add;set L.H;push 9;get L.H;get L.B;sub;sub;ret;}}"));
        run.begin(1190, false);
        run.go(99);
        run.is("run", run.x.run(1), 1);
    }

    /** THE OUT of a program, read by as many houses as that takes: one has 512 calls. */
    private static String told(String program) {
        StringBuilder all = new StringBuilder();
        int length = 1;
        for (int from = 0; from < length; from += 250) {
            Due d = Due.with("tell of much", program);
            length = d.x.tell();
            for (int i = from; i < from + 250 && i < length; i++) {
                all.append((char) d.x.out(i));
            }
        }
        return all.toString();
    }

    private static void toldWhole() {
        StringBuilder text = new StringBuilder("order o : a , b , a < b ; order p : c , d , e , c < e , d < c ; kind A ( n : int = - 4 , s : text = 'x' ) ;");
        for (char k = 'B'; k <= 'L'; k++) {
            text.append(" kind ").append(k).append(" = @ ").append((char) (k - 1)).append(k % 2 == 0 ? " @ o . b ;" : " ;");
        }
        for (char m = 'M'; m <= 'R'; m++) {
            text.append(" maker ").append(m).append(" : ").append((char) (m - 12)).append(" adds @ ").append((char) (m - 11)).append(" @ ").append((char) (m - 10));
            text.append(" ;");
        }
        for (char c = 'a'; c <= 'k'; c++) {
            text.append(" class ").append(c).append(c == 'a' ? " " : " : " + (char) (c - 1) + " ").append("@ ").append((char) (c - 31));
            text.append(" { field f @ o . a = ").append((int) c).append(" ; field g = - ").append(c - 90).append(" ; method m ( ) { read ; store ").append(c);
            text.append(" ; load ").append(c).append(" ; ret ; } }");
        }
        text.append(" class l @ A ( s = '' ) { field f @ L ; method M ( ) { read ; ret ; } method N ( ) { read ; ret ; } method O ( ) { read ; ret ; }");
        text.append(" method P ( ) { read ; ret ; } method Q ( ) { read ; ret ; } method R ( ) { read ; ret ; } method S ( ) { read ; ret ; }");
        text.append(" method T ( t @ no p , u @ B , v @ no C @ D , w @ o . a ) @ E { X : push - 7 @ p . e @ o . b ; Y : read @ o . a ; add ; zero X ; push 1 ; jump Y ; } }");
        String program = text.toString();
        Due d = new Due("tell of what is told already");
        d.is("it fits on THE TAPE", program.length() <= 4000, true);
        d.is("the same text", told(program), program);
        Due marks = Due.with("MARKS of the last METHOD", program);
        marks.is("t", marks.mark(1191, 0), "101 1 1 0");
        marks.is("u", marks.mark(1192, 0), "1 1 0 0");
        marks.is("v", marks.mark(1193, 0) + ", " + marks.mark(1193, 1), "2 1 1 0, 3 1 0 0");
        marks.is("w", marks.mark(1194, 0), "100 1 0 1");
        marks.is("T", marks.mark(1190, 0), "4 1 0 0");
    }

    private static void toldMembersAndElements() {
        String program = "order t : A , B , C , D , E , F , G , H , I , J , K , L , A < B , B < C , C < D , D < E , E < F , F < G , G < H , H < I , I < J , J < K , K < L ;"
                + " kind k ( a : int , b : text , c : int = 0 , d : text = 'abcdefgh' ) on class param heirs many ;"
                + " class Z @ k ( a = 1 , b = '' , c = - 2 , d = 'x' ) @ k ( a = 999999999 , b = 'abcdefgh' ) @ no k { }";
        new Due("tell of the most MEMBERS and ELEMENTS").is("the same text", told(program), program);
        Due clash = Due.with("CLASH of four MEMBERS", "kind x(a:int=1,b:text='',c:int=0,d:text='q');kind p=@x;kind q=@x(d='q',c=0,b='',a=1);kind r=@x(d='r');class A@p@q{}class B@p@r{}");
        clash.is("alike", clash.whence(0, 0), "0 0 1 0");
        clash.is("the fourth is not", clash.whence(100, 0), "100 0 1 1");
    }

    private static void oneAheadOfAnother() {
        Due d = Due.with("nothing of the program ahead is in the next one", "order t:a<b,b<c,c<d,d<e,e<f;order s:u<v,w<u;kind k(n:int=1,s:text='x')on field heirs many=@t.a;"
                + "class A{}class B:A{field f@k=3;}");
        d.feed("order t:b<a;kind k;kind l;maker m:k adds @l;maker n:l adds @k;class A@k{field f;field g;method m(p){read;store v;load v;ret;}}class B:A{method m(p){load p;ret;}}");
        d.is("compile", d.compile(), Due.NOTHING);
        d.is("TOP", d.x.markOf(1, 0), 1);
        d.is("find", d.x.find(0), 6);
        d.is("BOTTOM", d.x.markOf(1, 0), 0);
        d.is("MEMBERS", d.x.size(5, 0), 0);
        d.is("k stands everywhere, once, without heirs", d.x.effective(0, 0) + " " + d.x.effective(100, 0) + " " + d.give(0, 2, "k", 0, "k", 0) + " "
                + d.x.effective(0, 0), "1 0 2 0");
        d.is("MAKERS", d.x.size(2, 0), 2);
        d.feed("kind k;class A@k{method m(){read;ret;}}");
        d.is("compile", d.compile(), Due.NOTHING);
        d.is("ORDERS, MAKERS", d.x.size(0, 0) + " " + d.x.size(2, 0), "0 0");
        d.is("no MAKER makes", d.x.rounds() + " " + d.x.size(10, 0), "0 1");
        d.is("no PARAMETER", d.x.size(8, 20), 0);
        d.x.tell();
        d.is("tell", d.out(), "kind k ; class A @ k { method m ( ) { read ; ret ; } }");

        Due orders = Due.with("an ORDER behind a larger one", "order t:e<f,d<e,c<d,b<c,a<b;class A{}");
        orders.feed("order t:a<b,a<c,b<d,c<d;class A{field f;method m(){push 1;ret;}}");
        orders.is("compile", orders.compile(), Due.NOTHING);
        orders.is("TOP", orders.x.markOf(1, 0), 3);
        orders.is("JOIN, MEET", orders.x.order(0, 1, 2, 1) + " " + orders.x.order(0, 1, 2, 2), "3 0");
        orders.is("find", orders.x.find(0) + " " + orders.x.markOf(1, 0), "2 0");
        orders.x.tell();
        orders.is("tell", orders.out().startsWith("order t : a , b , c , d , a < b , a < c , b < d , c < d ; class"), true);
        // STATES of ACTS that were there ahead are gone: of a METHOD that is longer, and of those behind it.
        Due acts = Due.with("fewer ACTS behind more", "order t:a<b;class A{method m()@t.a{push 1@t.b;push 1@t.b;ret;}method n()@t.a{push 1@t.b;ret;}}");
        acts.is("flow", acts.x.flow(0), 2);
        acts.feed("order t:a<b;class A{method m()@t.a{push 1;ret;}}");
        acts.is("compile", acts.compile(), Due.NOTHING);
        acts.is("flow", acts.x.flow(0), 0);
        acts.is("weave", acts.x.weave(), 0);
        acts.is("give", acts.give(20, 0), 0);
        acts.is("find", acts.x.find(0) + " " + acts.x.markOf(20, 0), "1 0");
        // A FAULT in the midst leaves nothing either.
        orders.feed("order t:a<b;order u:a<b;kind k;kind l(n:int);class A@k{field f@t.a;method m(p){load p;ret;}}class A{}");
        orders.is("compile", orders.compile(), Due.ILLEGAL_ARGUMENT);
        orders.feed("kind q;class A{field g;}");
        orders.is("compile", orders.compile(), Due.NOTHING);
        orders.is("sizes", orders.x.size(0, 0) + " " + orders.x.size(1, 0) + " " + orders.x.size(3, 0) + " " + orders.x.size(6, 0) + " " + orders.x.size(7, 0) + " "
                + orders.x.size(10, 0) + " " + orders.x.size(10, 1), "0 1 1 1 0 0 0");
    }

    /** Two programs of more than 600 ACTS each, one behind the other. */
    private static void manyActs() {
        StringBuilder text = new StringBuilder();
        for (char c = 'A'; c < 'C'; c++) {
            text.append("class ").append(c).append("{").append(Due.times(8, "method #(){read;" + "ret;".repeat(39) + "}")).append("}");
        }
        Due d = Due.with("640 ACTS", text.toString());
        d.is("the last METHOD's", d.x.size(9, 190), 40);
        d.feed(text.toString());
        d.is("compile", d.compile(), Due.NOTHING);
        d.is("the last METHOD's", d.x.size(9, 190), 40);
        d.begin(190, false);
        d.is("go", d.go(9), "2");
        d.is("VALUE", d.x.run(0), 2);
    }

    private static void twelveClassesOfMarks() {
        StringBuilder text = new StringBuilder("kind h heirs;kind b(n:int=0,s:text='')many;kind x;maker m:h adds @b(n=5,s='q')@x;class A@h{}");
        for (char c = 'B'; c <= 'L'; c++) {
            text.append("class ").append(c).append(":").append((char) (c - 1)).append("{}");
        }
        Due d = Due.with("MAKERS for twelve CLASSES", text.toString());
        d.is("rounds", d.x.rounds(), 1);
        for (int c = 0; c < 12; c++) {
            d.is("CLASS " + c, d.x.size(10, 100 * c), c == 0 ? 3 : 2);
            d.is("both PAIRS", d.ask(100 * c, 1, 0, 0) + " " + d.ask(100 * c, 1, 0, 1), "1 5 2 q");
        }
        // The twelfth is an heir of the first, eleven above it.
        Due far = Due.with("a PART eleven below", text.toString().replace("kind h heirs", "kind want(of:text);kind part;kind h heirs")
                .replace("class L:K{}", "class L:K@part{field f@want(of='A');}"));
        far.is("RING: it is the one", far.x.wire(), 3);
        far.is("wired", far.x.wired(0) + " " + far.x.wired(1) + " " + far.x.wired(2), "1101 11 -1");
    }

    private static void fortyActs() {
        Due d = Due.with("forty ACTS", "order t:a<b;class A{method m()@t.a{" + Due.times(19, "read;pop;") + "push 1@t.b;ret;}}");
        d.is("flow", d.x.flow(0), 1);
        d.is("error", d.error(0), "20 39 0 1 0");
        d.is("way", d.x.way(0), 40);
        d.is("its steps", d.x.step(0) + " " + d.x.step(39) + " " + d.x.step(40), "0 39 -1");
        d.is("state", d.x.state(20, 39, 8), 1);
        d.is("weave", d.x.weave(), 1);
        d.begin(20, true);
        d.is("go", d.go(99), "39");
        d.is("FAILED", d.tallies(), "4 0 39 20 39 0 0 -1 -1 -1 0 1");
    }

    private static void fourOrders() {
        String order = "order #:z<l,z<r,l<u,r<u;";
        Due d = Due.with("FINDING for each of four ORDERS", Due.times(4, order) + "class Z{field f;field g;method m(p){load p;set Z.f;push 1;ret;}"
                + "method n(){push 1@A.l@B.r@C.u@D.l;call Z.m;pop;push 1@D.r;set Z.f;push 1;ret;}}");
        String[] due = {"1 0 0 1 0", "2 0 0 2 0", "3 0 0 3 0", "3 0 0 1 0"};
        for (int o = 3; o >= 0; o--) {
            d.is("find", d.x.find(o), 5);
        }
        for (int o = 0; o < 4; o++) {
            d.is("ORDER " + o, d.x.markOf(1, o) + " " + d.x.markOf(2, o) + " " + d.x.markOf(20, o) + " " + d.x.markOf(21, o) + " " + d.x.markOf(30, o), due[o]);
            d.is("flow", d.x.flow(o), 0);
        }
        // BOTTOM is not the first ELEMENT: what nothing comes to is BOTTOM, METHODS too.
        Due low = Due.with("BOTTOM first", "order t:b<c,a<b;class A{field f;method m(p){push 1;set A.f;load p;pop;push 1;ret;}method n(p,q){load p;ret;}"
                + "method o(){push 1;push 1;call A.n;ret;}}");
        low.is("find", low.x.find(0), 7);
        int[] places = {1, 20, 21, 30, 31, 32, 40};
        for (int place : places) {
            low.is("FOUND at " + place, low.x.markOf(place, 0), 2);
        }
    }

    /** Four ORDERS and four PARAMETERS: the CHECK that fails is the one of its ORDER and PARAMETER. */
    private static void sixteenChecks() {
        String front = "order o:a<b;order p:a<b;order q:a<b;order r:a<b;kind k=@o.a@p.a@q.a@r.a;class A{method k(w@k,x@k,y@k,z@k){push 1;ret;}"
                + "method m(){read;zero L;push 1@o.b@p.b@q.b@r.b;dup;dup;dup;jump M;L:";
        for (int order = 0; order < 4; order++) {
            for (int k = 0; k < 4; k++) {
                StringBuilder values = new StringBuilder();
                for (int j = 0; j < 4; j++) {
                    values.append(j == k ? "push 1@" + (char) ('o' + order) + ".b;" : "push 1;");
                }
                Due d = Due.with("the CHECK of ORDER " + order + ", PARAMETER " + k, front + values + "M:call A.k;ret;}}");
                d.is("weave", d.x.weave(), 16);
                d.begin(30, true);
                d.is("go", d.go(99), "6");
                d.is("FAILED", d.tallies(), "4 0 6 30 11 0 0 -1 -1 -1 0 " + (4 * order + k + 1));
                d.begin(30, false);
                d.go(99);
                d.is("LEFT", d.tallies(), "2 1 10 30 12 0 1 30 11 " + order + " 0 0");
            }
        }
        Due all = Due.with("sixteen CHECKS that pass", front + "push 1;push 1;push 1;push 1;M:call A.k;ret;}}");
        all.is("weave", all.x.weave(), 16);
        all.begin(30, true);
        all.is("go", all.go(99), "10");
        all.is("all are done", all.tallies(), "2 1 10 30 12 0 0 -1 -1 -1 0 16");
        all.x.input(1);
        all.begin(30, false);
        all.go(99);
        all.is("sixteen LEFT", all.x.run(6), 16);
    }

    /** 1600 MARKS in a text that fills THE TAPE nearly, then as many by FILES as the 512 calls of one object leave. */
    private static void manyMarks() {
        String marks = "@k".repeat(20);
        String method = "method #(p" + marks + ",q" + marks + ",r" + marks + ",s" + marks + ")" + marks + "{read;ret;}";
        String text = "kind k many;class A{" + Due.times(8, method) + "field f;}class B{" + Due.times(8, method) + "field f;}";
        Due d = new Due("512 calls");
        int calls = 0;
        d.feed(text);
        calls += 2 + (text.length() + 19) / 20;
        d.is("compile", d.compile(), Due.NOTHING);
        calls++;
        int[] places = {1, 0, 101, 100, 20, 194, 190, 24};
        for (int k = 0; calls + 8 <= 510; k++) {
            d.is("give", d.give(places[k % places.length], Due.marks(20, "k", 0)), 20);
            calls += 2 + 4 + 1;
        }
        d.is("so many calls", calls > 500 && calls <= 510, true);
        d.is("the last but one", d.x.effective(191, 0), 20);
        d.is("the last", d.x.effective(1, 0), 20);
    }
}
