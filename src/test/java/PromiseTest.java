/** Promises 1 to 34, one after the other: what each call refuses, what it answers at its bounds, what it leaves alone. */
public final class PromiseTest {
    private static final int LOW = Integer.MIN_VALUE;
    private static final int HIGH = Integer.MAX_VALUE;
    private static final String THREE = "order t:a<b,b<c;";

    public static void main(String[] args) {
        newObject();
        feed();
        end();
        out();
        compile();
        fault();
        tell();
        size();
        order();
        mark();
        give();
        file();
        effective();
        whence();
        ask();
        markOf();
        rounds();
        flow();
        error();
        way();
        step();
        state();
        find();
        plain();
        weave();
        code();
        argument();
        input();
        begin();
        go();
        run();
        truth();
        wire();
        wired();
        Due.close();
    }

    /** All that a call answers where there is no program. */
    private static void noProgram(Due d) {
        d.is("tell", d.x.tell(), -1);
        for (int what = -1; what <= 11; what++) {
            d.is("size of " + what, d.x.size(what, 0), -1);
            d.is("size of " + what, d.x.size(what, 20), -1);
        }
        for (int what = 0; what < 3; what++) {
            d.is("order", d.x.order(0, 0, 0, what), -1);
        }
        for (int what = 0; what < 4; what++) {
            d.is("mark", d.x.mark(0, 0, what), -1);
            d.is("whence", d.x.whence(0, 0, what), -1);
        }
        d.is("give", d.give(0, 0), -1);
        d.is("give takes THE TAPE", d.x.end(1), -1);
        d.is("file", d.x.file(0), -1);
        d.is("effective", d.x.effective(0, 0), -1);
        d.is("effective", d.x.effective(20, 100), -1);
        d.is("ask", d.x.ask(0, 0, 0, 0), -1);
        d.is("markOf", d.x.markOf(20, 0), -1);
        d.is("rounds", d.x.rounds(), -1);
        d.is("flow", d.x.flow(0), -1);
        d.is("error", d.x.error(0, 0), -1);
        d.is("way", d.x.way(0), -1);
        d.is("step", d.x.step(0), -1);
        d.is("state", d.x.state(20, 0, 0), -1);
        d.is("find", d.x.find(0), -1);
        d.is("plain", d.x.plain(0), false);
        d.is("weave", d.x.weave(), -1);
        d.is("code", d.x.code(20, false), -1);
        d.is("code", d.x.code(20, true), -1);
        d.is("begin", d.begin(20, false), Due.ILLEGAL_STATE);
        d.is("begin", d.begin(-1, true), Due.ILLEGAL_STATE);
        d.is("go", d.go(1), Due.ILLEGAL_STATE);
        d.is("run", d.tallies(), "0 0 0 0 0 0 0 -1 -1 -1 0 0");
        d.is("truth", d.x.truth(0), -1);
        d.is("wire", d.x.wire(), -1);
        d.is("wired", d.x.wired(0) + " " + d.x.wired(1) + " " + d.x.wired(2), "-1 -1 -1");
        d.is("argument", d.x.argument(0, 1), true);
        d.is("out", d.x.out(0), -1);
    }

    private static void newObject() {
        Due d = new Due("1 MarkHouse(): No program");
        d.is("fault", d.x.fault(0) + " " + d.x.fault(1), "0 0");
        d.is("end(0)", d.x.end(0), 0);
        noProgram(d);
        d.is("input", d.x.input(1), 1);
        // Each object has its own.
        Due other = new Due("1 another object");
        d.feed("class A{}");
        d.is("compile", d.compile(), Due.NOTHING);
        noProgram(other);
        other.is("input", other.x.input(1), 1);
        Due gone = Due.with("5 there is no program then", THREE + "class A{field f;method m(){read;ret;}}");
        gone.feed("class A{}#");
        gone.is("compile", gone.compile(), Due.ILLEGAL_ARGUMENT);
        noProgram(gone);
    }

    private static void feed() {
        Due d = new Due("2 feed: Twenty bytes, the highest of each int first: how many there are; NONE, and none come, if there would be more than 4000");
        d.is("feed", d.x.feed(0x636c6173, 0x7320417b, 0x7d636c61, 0x73732042, 0x3a417b7d), 20);
        d.is("compile", d.compile(), Due.NOTHING);
        d.x.tell();
        d.is("its bytes", d.out(), "class A { } class B : A { }");
        for (int k = 1; k <= 199; k++) {
            d.is("feed", d.x.feed(0x20202020, 0x20202020, 0x20202020, 0x20202020, 0x20202020), 20 * k);
        }
        for (int length = 3981; length <= 3999; length++) {
            d.is("feed to 4000", d.x.feed(0x20202020, 0x20202020, 0x20202020, 0x20202020, 0x20202020), 4000);
            d.is("end", d.x.end(length), length);
            d.is("more than 4000", d.x.feed(-1, -1, -1, -1, -1), -1);
            d.is("none came", d.x.end(length + 1), -1);
            d.is("end", d.x.end(3980), 3980);
        }
        Due high = new Due("2 feed: bytes 128 .. 255");
        high.x.feed(0x80ff0001, 0, 0, 0, 0);
        high.is("end", high.x.end(2), 2);
        high.is("compile", high.compile(), Due.ILLEGAL_ARGUMENT);
        high.is("fault", high.x.fault(0) + " at " + high.x.fault(1), "1 at 0");
    }

    private static void end() {
        Due d = new Due("3 end: THE TAPE has its first n bytes alone: n; NONE if there are not so many, or n is below 0");
        d.is("end(0)", d.x.end(0), 0);
        d.is("end(1)", d.x.end(1), -1);
        d.is("feed", d.x.feed(0x636c6173, 0x7320417b, 0x7d232323, 0x23232323, 0x23232323), 20);
        int[] refused = {21, 4000, 4001, -1, LOW, HIGH};
        for (int n : refused) {
            d.is("end(" + n + ")", d.x.end(n), -1);
        }
        d.is("end(20)", d.x.end(20), 20);
        d.is("end(19)", d.x.end(19), 19);
        d.is("end(20)", d.x.end(20), -1);
        d.is("end(9)", d.x.end(9), 9);
        d.is("refused ones leave it", d.x.end(-1), -1);
        d.is("feed comes behind those", d.x.feed(0x636c6173, 0x7320427b, 0x7d202020, 0x20202020, 0x20202020), 29);
        d.is("compile", d.compile(), Due.NOTHING);
        d.is("both CLASSES", d.x.size(3, 0), 2);
    }

    private static void out() {
        Due d = Due.with("4 out: Byte i of THE OUT (0 .. 255); NONE if there is none", "kind k(n:int);class A@k(n=-2){}");
        d.is("nothing yet", d.x.out(0), -1);
        d.is("file", d.x.file(0), 11);
        int[] due = {1, 1, 'k', 1, 1, 'n', 1, 255, 255, 255, 254};
        for (int i = 0; i < due.length; i++) {
            d.is("out(" + i + ")", d.x.out(i), due[i]);
        }
        for (int i : new int[] {11, 7999, 8000, -1, LOW, HIGH}) {
            d.is("out(" + i + ")", d.x.out(i), -1);
        }
        d.is("ask", d.x.ask(0, 0, 0, 0), 1);
        d.is("what is written is all there is", d.out(), "-2");
        d.feed("class B{}");
        d.compile();
        d.is("it stays over compile()", d.out(), "-2");
        d.is("and over what writes nothing", d.x.file(1) + " " + d.x.code(0, true) + " " + d.x.ask(0, 0, 0, 0), "-1 -1 -1");
        d.is("the out", d.out(), "-2");
    }

    private static void compile() {
        Due d = Due.with("5 compile: THE TAPE, which is empty then, is the program: how many CLASSES. FOUND MARKS are TOP",
                THREE + "class A{field f;method m(){push 1;ret;}}");
        d.is("THE TAPE is empty", d.x.end(1), -1);
        d.is("find", d.x.find(0), 2);
        d.is("FOUND", d.x.markOf(1, 0), 0);
        d.feed(THREE + "class A{field f;method m(){push 1;ret;}}");
        d.is("compile", d.compile(), Due.NOTHING);
        d.is("TOP again", d.x.markOf(1, 0), 2);
        d.feed("class");
        d.is("a FAULT", d.compile(), Due.ILLEGAL_ARGUMENT);
        d.is("THE TAPE is empty", d.x.end(1), -1);
        d.is("no program", d.x.size(3, 0), -1);
        d.is("of an empty TAPE", d.compile(), Due.ILLEGAL_ARGUMENT);
        d.is("fault", d.x.fault(0) + " at " + d.x.fault(1), "2 at 0");
        // Nothing of the program ahead is left in the next one.
        d.feed("order t:x<y;kind k;class B@k{field f;field g;method m(p){load p;ret;}}class C:B{}");
        d.is("compile", d.compile(), Due.NOTHING);
        d.feed("class A{field f;}");
        d.is("compile", d.compile(), Due.NOTHING);
        d.is("sizes", d.x.size(0, 0) + " " + d.x.size(1, 0) + " " + d.x.size(3, 0) + " " + d.x.size(6, 0) + " " + d.x.size(7, 0), "0 0 1 1 0");
        d.is("no MARKS", d.x.size(10, 0) + " " + d.x.size(10, 1) + " " + d.x.size(10, 2), "0 0 -1");
        d.is("tell", d.x.tell(), "class A { field f ; }".length());
    }

    private static void fault() {
        Due d = Due.with("6 fault: Of the latest compile(), what 0: the FAULT's kind, 1: its place; 0 without one. NONE for another what", "class A{}");
        d.is("without one", d.x.fault(0) + " " + d.x.fault(1), "0 0");
        d.feed("class A{} class A{}");
        d.is("compile", d.compile(), Due.ILLEGAL_ARGUMENT);
        d.is("with one", d.x.fault(0) + " " + d.x.fault(1), "3 16");
        for (int what : new int[] {-1, 2, LOW, HIGH}) {
            d.is("fault(" + what + ")", d.x.fault(what), -1);
        }
        d.is("it stays", d.x.fault(0) + " " + d.x.fault(1), "3 16");
        d.feed("class A{}");
        d.is("compile", d.compile(), Due.NOTHING);
        d.is("gone", d.x.fault(0) + " " + d.x.fault(1), "0 0");
    }

    private static void tells(String about, String text, String told) {
        Due d = Due.with("7 tell: " + about, text);
        d.is("tell", d.x.tell(), told.length());
        d.is("the out", d.out(), told);
    }

    private static void tell() {
        tells("one byte 32 between LEXEMES", " \n class  A\n{ } ", "class A { }");
        tells("ORDERS: all ELEMENTS as PAIRS, then each a < b with nothing between them, by a, then b",
                "order t:c<d,a<d,z<c,z<a,z<d,a<a;class A{}", "order t : c , d , a , z , c < d , a < d , z < c , z < a ; class A { }");
        tells("one ELEMENT", "order t:a;class A{}", "order t : a ; class A { }");
        String[] sorts = {"class", "field", "method", "param"};
        for (int on = 1; on < 16; on++) {
            StringBuilder some = new StringBuilder(" on");
            for (int sort = 0; sort < 4; sort++) {
                some.append((on >> sort & 1) != 0 ? " " + sorts[sort] : "");
            }
            tells("of KINDS on and the sorts told, unless all four were", "kind k" + some + ";class A{}", "kind k" + (on == 15 ? "" : some) + " ; class A { }");
        }
        tells("VALUES of MEMBERS in the KIND's order ( ( ) only with some)", "kind k(a:int=1,b:text='x',c:int=2)many;class A@k@k(c=2)@k(c=0,a=-5)@k(b='')@no k{}",
                "kind k ( a : int = 1 , b : text = 'x' , c : int = 2 ) many ; class A @ k @ k ( c = 2 ) @ k ( a = - 5 , c = 0 ) @ k ( b = '' ) @ no k { }");
        tells("a FIELD's number unless it is 0", "class A{field a;field b=0;field c=-0;field d=000;field e=1;field f=-1;field g=999999999;}",
                "class A { field a ; field b ; field c ; field d ; field e = 1 ; field f = - 1 ; field g = 999999999 ; }");
        tells("FIELDS ahead of METHODS", "class A{method m(){L:read;ret;}field f;method n(p){read;ret;}field g;}",
                "class A { field f ; field g ; method m ( ) { L : read ; ret ; } method n ( p ) { read ; ret ; } }");
        String front = "order t : a , b , c , a < b , b < c ; kind k ( a : int = 1 , b : text ) many ; kind c on class ; class A { field f";
        Object[][] files = {{1, "k", 1, "b", 2, "x"}, {1, "k", 0}, {1, "k", 1, "b", 1, 0, 0, 0, 0}, {1, "k", 2, "b", 2, "x", "a", 2, ""},
            {1, "k", 3, "q", 3, "x", "b", 2, "y", "b", 1, 0, 0, 0, 0}, {1, "c", 0}, {1, "x", 0}, {1, "t", 1, "at", 3, "c"}, {1, "t", 1, "at", 3, "d"},
            {2, "t", 255, "k", 255}, {2, "t", 255, "t", 255}};
        String[] told = {" @ k ( b = 'x' )", "", "", "", " @ k ( b = 'y' )", "", "", " @ t . c", "", " @ no t @ no k", ""};
        for (int k = 0; k < files.length; k++) {
            Due one = Due.with("7 tell: OWN MARKS that COUNT and have no WARPED or MISSING VALUE, FILE " + k, THREE + "kind k(a:int=1,b:text)many;kind c on class;class A{field f;}");
            one.is("give", one.give(1, files[k]), (Integer) files[k][0]);
            String due = front + told[k] + " ; }";
            one.is("tell", one.x.tell(), due.length());
            one.is("the out", one.out(), due);
        }
        Due made = Due.with("7 tell: MARKS that MAKERS brought", "kind k;kind q(n:int=0);maker m:k adds @q(n=5);class A@k{}");
        made.is("rounds", made.x.rounds(), 1);
        made.x.tell();
        made.is("the out", made.out(), "kind k ; kind q ( n : int = 0 ) ; maker m : k adds @ q ( n = 5 ) ; class A @ k @ q ( n = 5 ) { }");
        tells("MAKERS", "kind k;kind q(n:int,s:text);maker m:k adds @q(s='x',n=1)@k;class A{}",
                "kind k ; kind q ( n : int , s : text ) ; maker m : k adds @ q ( n = 1 , s = 'x' ) @ k ; class A { }");
    }

    private static void size() {
        Due d = Due.with("8 size: NONE if there is none such", "order o:a<b;order p:x;kind k(n:int,s:text);kind l;maker M:l adds @l;"
                + "class A@l{field f@no o;method m(p,q@l@k(n=1,s='')){load p;ret;}}class B{method n(){push 1;pop;push 1;ret;}method k(a){load a;ret;}}");
        String[] due = {"2", "2", "1", "2"};
        for (int what = 0; what < 4; what++) {
            d.is("size(" + what + ")", d.x.size(what, 0) + " " + d.x.size(what, -1) + " " + d.x.size(what, HIGH), due[what] + " " + due[what] + " " + due[what]);
        }
        int[] bounds = {2, 2, 2, 2};
        int[][] counts = {{2, 1}, {2, 0}, {1, 0}, {1, 2}};
        for (int what = 4; what < 8; what++) {
            for (int n = 0; n < 2; n++) {
                d.is("size(" + what + ", " + n + ")", d.x.size(what, n), counts[what - 4][n]);
            }
            for (int n : new int[] {-1, bounds[what - 4], 100, LOW, HIGH}) {
                d.is("size(" + what + ", " + n + ")", d.x.size(what, n), -1);
            }
        }
        int[] methods = {20, 120, 130};
        int[] params = {2, 0, 1};
        int[] acts = {2, 4, 2};
        for (int k = 0; k < 3; k++) {
            d.is("PARAMETERS at " + methods[k], d.x.size(8, methods[k]), params[k]);
            d.is("ACTS at " + methods[k], d.x.size(9, methods[k]), acts[k]);
        }
        for (int n : new int[] {0, 1, 19, 21, 22, 30, 100, 119, 131, 140, 220, -80, -1, LOW, HIGH}) {
            d.is("PARAMETERS at " + n, d.x.size(8, n), -1);
            d.is("ACTS at " + n, d.x.size(9, n), -1);
        }
        d.is("OWN MARKS", d.x.size(10, 0) + " " + d.x.size(10, 1) + " " + d.x.size(10, 20) + " " + d.x.size(10, 22) + " " + d.x.size(10, 131), "1 1 0 2 0");
        for (int what : new int[] {-1, 11, LOW, HIGH}) {
            d.is("size(" + what + ")", d.x.size(what, 0), -1);
        }
    }

    private static void order() {
        Due d = Due.with("9 order: NONE if there is none such", THREE + "order s:x<y;class A{}");
        int[][] refused = {{-1, 0, 0, 0}, {2, 0, 0, 0}, {LOW, 0, 0, 0}, {HIGH, 0, 0, 0}, {0, -1, 0, 0}, {0, 3, 0, 0}, {0, LOW, 0, 1}, {0, HIGH, 0, 2},
            {0, 0, -1, 0}, {0, 0, 3, 1}, {0, 0, LOW, 2}, {0, 0, HIGH, 0}, {0, 0, 0, -1}, {0, 0, 0, 3}, {0, 0, 0, LOW}, {0, 0, 0, HIGH}, {1, 2, 0, 0}, {1, 0, 2, 1}};
        for (int[] r : refused) {
            d.is("order(" + r[0] + ", " + r[1] + ", " + r[2] + ", " + r[3] + ")", d.x.order(r[0], r[1], r[2], r[3]), -1);
        }
        d.is("the last ELEMENT", d.x.order(0, 2, 2, 0) + " " + d.x.order(0, 2, 0, 1) + " " + d.x.order(0, 2, 0, 2), "1 2 0");
        d.is("the last ORDER", d.x.order(1, 1, 0, 0) + " " + d.x.order(1, 1, 0, 1) + " " + d.x.order(1, 1, 0, 2), "0 1 0");
        Due four = Due.with("9 order: the fourth", "order a:x;order b:x;order c:x;order d:x<y;class A{}");
        four.is("order(3)", four.x.order(3, 0, 1, 1), 1);
        four.is("order(4)", four.x.order(4, 0, 0, 0), -1);
    }

    private static void mark() {
        Due d = Due.with("10 mark: NONE if there is none such", "order o:a;kind j;kind k(n:int=0)many;class A@k@no k@k(n=1){field f@o.a@j;method m(p@no o){read;ret;}}");
        d.is("k", d.mark(0, 0), "1 1 0 0");
        d.is("no k", d.mark(0, 1), "1 1 1 0");
        d.is("k with a PAIR", d.mark(0, 2), "1 1 0 1");
        d.is("o", d.mark(1, 0), "100 1 0 1");
        d.is("j", d.mark(1, 1), "0 1 0 0");
        d.is("no o", d.mark(21, 0), "100 1 1 0");
        int[][] none = {{0, 3}, {0, -1}, {0, LOW}, {0, HIGH}, {1, 2}, {20, 0}, {2, 0}, {22, 0}, {100, 0}, {-1, 0}, {LOW, 0}, {HIGH, 0}};
        for (int[] n : none) {
            d.is("mark(" + n[0] + ", " + n[1] + ")", d.mark(n[0], n[1]), "-1 -1 -1 -1");
        }
        for (int what : new int[] {-1, 4, LOW, HIGH}) {
            d.is("mark of " + what, d.x.mark(0, 0, what), -1);
        }
    }

    private static void give() {
        Due d = Due.with("11 give: how many OWN MARKS it has then. -1000 less a place; NONE: no such PLACE (in both THE TAPE is empty then, too, and"
                + " nothing else changes)", THREE + "kind k many;class A@k@k{field f@t.a;method m(p){load p;ret;}}");
        int[] refused = {-1, 2, 19, 22, 100, LOW, HIGH};
        for (int place : refused) {
            d.is("give", d.give(place, 1, "k", 0), -1);
            d.is("THE TAPE is empty", d.x.end(1), -1);
            d.is("a wrong FILE at no PLACE", d.give(place, 99), -1);
            d.is("THE TAPE is empty", d.x.end(1), -1);
        }
        d.is("a wrong FILE", d.give(0, 1, "k", 9), -1003);
        d.is("THE TAPE is empty", d.x.end(1), -1);
        d.is("nothing was changed", d.x.size(10, 0), 2);
        d.is("an empty TAPE", d.x.give(0), -1000);
        d.is("nothing was changed", d.x.size(10, 0), 2);
        for (int place : new int[] {0, 1, 20, 21}) {
            d.is("one", d.give(place, 1, "k", 0), 1);
            d.is("THE TAPE is empty", d.x.end(1), -1);
            d.is("size", d.x.size(10, place), 1);
            d.is("the MARKS ahead are gone", d.mark(place, 0), "0 1 0 0");
            d.is("none", d.give(place, 0), 0);
            d.is("size", d.x.size(10, place), 0);
        }
        d.is("a wrong byte far behind", d.give(0, Due.marks(20, "k", 3)), -1010);
        Due full = Due.with("11 give: the longest FILE", "class A{}");
        byte[] most = new byte[4000];
        most[0] = 20;
        full.feed(most);
        full.is("give", full.x.give(0), -1001);
        // Each PLACE of the fullest program is given as many as there can be in 512 calls.
        Due many = Due.with("11 give: many", "kind w many;class A{" + Due.times(8, "field #;") + "}class B{" + Due.times(8, "field #;") + "}");
        for (int round = 0; round < 3; round++) {
            for (int f = 0; f < 16; f++) {
                many.is("give", many.give(f / 8 * 100 + 1 + f % 8, Due.marks(20, "w", 0)), 20);
            }
        }
        for (int f = 0; f < 16; f++) {
            many.is("effective", many.x.effective(f / 8 * 100 + 1 + f % 8, 0), 20);
        }
    }

    private static void file() {
        Due d = Due.with("12 file: how many bytes; NONE: no such PLACE", "kind k;class A@k{field f;method m(p){load p;ret;}}");
        d.is("file", d.x.file(0), 4);
        d.is("the out", d.out(), "\1\1k\0");
        for (int place : new int[] {-1, 2, 19, 22, 30, 100, LOW, HIGH}) {
            d.is("file(" + place + ")", d.x.file(place), -1);
            d.is("the out stays", d.x.out(0), 1);
        }
        for (int place : new int[] {1, 20, 21}) {
            d.is("file(" + place + ") of none", d.x.file(place), 1);
            d.is("the out", d.out(), "\0");
        }
    }

    private static void effective() {
        Due d = Due.with("13 effective: NONE if there is none such", "order o:a;order p:a;kind k many;kind l;class A@k@k{field f@o.a;method m(q){load q;ret;}}");
        d.is("two", d.x.effective(0, 0), 2);
        d.is("none", d.x.effective(0, 1) + " " + d.x.effective(0, 100) + " " + d.x.effective(0, 101), "0 0 0");
        d.is("of an ORDER", d.x.effective(1, 100) + " " + d.x.effective(1, 101), "1 0");
        d.is("a PARAMETER", d.x.effective(21, 0), 0);
        for (int kind : new int[] {-1, 2, 12, 99, 102, 104, LOW, HIGH}) {
            d.is("KIND " + kind, d.x.effective(0, kind), -1);
        }
        for (int place : new int[] {-1, 2, 22, 30, 100, LOW, HIGH}) {
            d.is("PLACE " + place, d.x.effective(place, 0), -1);
        }
    }

    private static void whence() {
        Due d = Due.with("14 whence: NONE without EFFECTIVE MARKS, or if there is none such", "order o:a;kind k heirs;kind l;kind g=@l;class A@k@g{}class B:A{}");
        d.is("OWN", d.whence(0, 0), "0 0 0 0");
        d.is("above", d.whence(100, 0), "0 1 0 0");
        d.is("GIVEN", d.whence(0, 1), "0 0 1 0");
        d.is("without", d.whence(100, 1), "-1 -1 -1 -1");
        d.is("without", d.whence(0, 100), "-1 -1 -1 -1");
        for (int what : new int[] {-1, 4, LOW, HIGH}) {
            d.is("what " + what, d.x.whence(0, 0, what), -1);
        }
        for (int kind : new int[] {-1, 3, 99, 101, LOW, HIGH}) {
            d.is("KIND " + kind, d.whence(0, kind), "-1 -1 -1 -1");
        }
        for (int place : new int[] {-1, 1, 20, 200, LOW, HIGH}) {
            d.is("PLACE " + place, d.whence(place, 0), "-1 -1 -1 -1");
        }
    }

    private static void ask() {
        Due d = Due.with("15 ask: 1 of int, 2 of text, 3 an ELEMENT; -2 WARPED, -3 MISSING (THE OUT stays). NONE if there is none such",
                "order o:low<high;kind k(n:int,s:text='x')many;kind l;class A@k(n=-1)@k(n=0,s='a b')@l{field f@o.low;}");
        d.is("a number below 0", d.ask(0, 0, 0, 0), "1 -1");
        d.is("the default", d.ask(0, 0, 0, 1), "2 x");
        d.is("0", d.ask(0, 0, 1, 0), "1 0");
        d.is("a text", d.ask(0, 0, 1, 1), "2 a b");
        d.is("an ELEMENT", d.ask(1, 100, 0, 0), "3 low");
        int[][] none = {{0, 0, 2, 0}, {0, 0, -1, 0}, {0, 0, LOW, 0}, {0, 0, HIGH, 0}, {0, 0, 0, 2}, {0, 0, 0, -1}, {0, 0, 0, LOW}, {0, 0, 0, HIGH}, {0, 1, 0, 0},
            {0, 2, 0, 0}, {0, -1, 0, 0}, {1, 100, 1, 0}, {1, 100, 0, 1}, {1, 100, 0, -1}, {1, 101, 0, 0}, {0, 100, 0, 0}, {2, 0, 0, 0}, {-1, 0, 0, 0}, {LOW, 0, 0, 0}};
        for (int[] n : none) {
            d.is("ask(" + n[0] + ", " + n[1] + ", " + n[2] + ", " + n[3] + ")", d.x.ask(n[0], n[1], n[2], n[3]), -1);
        }
        d.is("THE OUT stays", d.out(), "low");
        d.is("give", d.give(0, 1, "k", 1, "s", 1, 0, 0, 0, 0), 1);
        d.is("MISSING", d.x.ask(0, 0, 0, 0), -3);
        d.is("WARPED", d.x.ask(0, 0, 0, 1), -2);
        d.is("give", d.give(1, 1, "o", 0), 1);
        d.is("WARPED", d.x.ask(1, 100, 0, 0), -2);
        d.is("THE OUT stays", d.out(), "low");
        d.is("give", d.give(0, 1, "k", 1, "n", 1, 127, 255, 255, 255), 1);
        d.is("the highest", d.ask(0, 0, 0, 0), "1 2147483647");
        d.is("give", d.give(0, 1, "k", 1, "n", 1, 128, 0, 0, 0), 1);
        d.is("the lowest", d.ask(0, 0, 0, 0), "1 -2147483648");
    }

    private static void markOf() {
        Due d = Due.with("16 markOf: THE MARK of a PLACE (of a FIELD, METHOD, PARAMETER) in an ORDER. NONE if there is none such",
                THREE + "kind k=@t.a;class A@k{field f@t.a;method m(p@t.b){load p;ret;}}");
        d.is("FIELD, METHOD, PARAMETER", d.x.markOf(1, 0) + " " + d.x.markOf(20, 0) + " " + d.x.markOf(21, 0), "0 2 1");
        d.is("a CLASS, though one is GIVEN there", d.x.effective(0, 100) + " " + d.x.markOf(0, 0), "1 -1");
        for (int place : new int[] {-1, 2, 22, 30, 100, 101, LOW, HIGH}) {
            d.is("PLACE " + place, d.x.markOf(place, 0), -1);
        }
        for (int order : new int[] {-1, 1, 4, 100, LOW, HIGH}) {
            d.is("ORDER " + order, d.x.markOf(1, order), -1);
        }
    }

    private static void rounds() {
        Due d = Due.with("17 rounds: ROUNDS of MAKERS are made: how many", "kind a;kind b;maker m:a adds @b;class A@a{}");
        d.is("one", d.x.rounds(), 1);
        d.is("none", d.x.rounds(), 0);
        d.is("give", d.give(0, 0), 0);
        d.is("none", d.x.rounds(), 0);
        d.is("give", d.give(0, 1, "a", 0), 1);
        d.is("one again", d.x.rounds(), 1);
    }

    private static void flow() {
        Due d = Due.with("18 flow: how many ERRORS. NONE if there is none", THREE + "order s:x<y;class A{method m()@t.a@s.x{push 1@t.b;ret;}}");
        d.is("one", d.x.flow(0), 1);
        for (int order : new int[] {-1, 2, 4, 100, LOW, HIGH}) {
            d.is("flow(" + order + ")", d.x.flow(order), -1);
        }
        d.is("the latest stands", d.error(0), "20 1 0 1 0");
        d.is("none", d.x.flow(1), 0);
        d.is("no ERROR", d.x.error(0, 0), -1);
        Due bare = Due.with("18 flow: no METHODS", THREE + "class A{field f;}");
        bare.is("none", bare.x.flow(0), 0);
    }

    private static void error() {
        Due d = Due.with("19 error: NONE if there is none such", THREE + "class A{method m()@t.a{push 1@t.b;read;zero L;ret;L:ret;}}");
        d.is("no flow() yet", d.error(0), "-1 -1 -1 -1 -1");
        d.is("flow", d.x.flow(0), 2);
        d.is("ERRORS", d.error(0) + ", " + d.error(1), "20 3 0 1 0, 20 4 0 1 0");
        for (int i : new int[] {-1, 2, LOW, HIGH}) {
            d.is("ERROR " + i, d.error(i), "-1 -1 -1 -1 -1");
        }
        for (int what : new int[] {-1, 5, LOW, HIGH}) {
            d.is("what " + what, d.x.error(0, what), -1);
        }
    }

    private static void way() {
        Due d = Due.with("20 way: how many ACTS, its own, too; NONE if there is none such", THREE + "class A{method m()@t.a{push 1@t.b;read;zero L;ret;L:ret;}}");
        d.is("no flow() yet", d.x.way(0), -1);
        d.is("flow", d.x.flow(0), 2);
        d.is("ways", d.x.way(0) + " " + d.x.way(1), "4 4");
        for (int i : new int[] {-1, 2, LOW, HIGH}) {
            d.is("ERROR " + i, d.x.way(i), -1);
        }
        d.is("again", d.x.way(0), 4);
    }

    private static void step() {
        Due d = Due.with("21 step: ACT k of the latest way() that had ACTS, since what flow() told. NONE if there is none",
                THREE + "class A{method m()@t.a{push 1@t.b;read;zero L;ret;L:ret;}}");
        d.is("no flow() yet", d.steps(), "");
        d.is("flow", d.x.flow(0), 2);
        d.is("no way() yet", d.steps(), "");
        d.is("way", d.x.way(1), 4);
        d.is("steps", d.steps(), "0 1 2 4");
        d.is("way", d.x.way(0), 4);
        d.is("the latest one's", d.steps(), "0 1 2 3");
        d.is("no ERROR", d.x.way(2), -1);
        d.is("they stay", d.steps(), "0 1 2 3");
        for (int k : new int[] {-1, 4, 399, 400, LOW, HIGH}) {
            d.is("step(" + k + ")", d.x.step(k), -1);
        }
        d.is("flow", d.x.flow(0), 2);
        d.is("gone", d.steps(), "");
    }

    private static void state() {
        Due d = Due.with("22 state: NONE if there is none such, or the ACT is not come to", THREE + "order s:x;class A{field f;method m(p@t.b){push 1@t.c;store v;load v;ret;load p;ret;}}");
        d.is("no flow() yet", d.x.state(20, 0, 0), -1);
        d.is("flow", d.x.flow(0), 0);
        d.is("p, v", d.x.state(20, 0, 0) + " " + d.x.state(20, 0, 1), "1 0");
        d.is("no third", d.x.state(20, 0, 2) + " " + d.x.state(20, 0, 7), "-1 -1");
        d.is("the stack", d.x.state(20, 0, 8) + " " + d.x.state(20, 1, 8) + " " + d.x.state(20, 1, 9) + " " + d.x.state(20, 3, 8), "-1 2 -1 2");
        d.is("not come to", d.x.state(20, 4, 0) + " " + d.x.state(20, 5, 8), "-1 -1");
        for (int act : new int[] {-1, 6, 40, LOW, HIGH}) {
            d.is("ACT " + act, d.x.state(20, act, 0), -1);
        }
        for (int slot : new int[] {-1, 16, LOW, HIGH}) {
            d.is("slot " + slot, d.x.state(20, 1, slot), -1);
        }
        for (int place : new int[] {0, 1, 21, 30, 120, -80, LOW, HIGH}) {
            d.is("PLACE " + place, d.x.state(place, 0, 0), -1);
        }
        d.is("flow", d.x.flow(1), 0);
        d.is("for the ORDER of the latest flow()", d.x.state(20, 1, 8), 0);
    }

    private static void find() {
        Due d = Due.with("23 find: how many PLACES are without an EFFECTIVE MARK of it. NONE if there is none", THREE + "order s:x;class A{field f;field g@t.a;method m(p)@t.a{push 1;ret;}}");
        d.is("two", d.x.find(0), 2);
        d.is("four", d.x.find(1), 4);
        for (int order : new int[] {-1, 2, 4, 100, LOW, HIGH}) {
            d.is("find(" + order + ")", d.x.find(order), -1);
        }
        d.is("FOUND still", d.x.markOf(1, 0), 0);
        Due bare = Due.with("23 find: CLASSES are not sought for", THREE + "class A{}class B{}");
        bare.is("none", bare.x.find(0), 0);
    }

    private static void plain() {
        Due d = Due.with("24 plain: FOUND MARKS of an ORDER are TOP again: true; false if there is none", THREE + "order s:x<y;class A{field f;field g@t.a;}");
        d.is("find", d.x.find(0) + " " + d.x.find(1), "1 2");
        d.is("FOUND", d.x.markOf(1, 0) + " " + d.x.markOf(1, 1), "0 0");
        for (int order : new int[] {-1, 2, 4, 100, LOW, HIGH}) {
            d.is("plain(" + order + ")", d.x.plain(order), false);
        }
        d.is("FOUND still", d.x.markOf(1, 0) + " " + d.x.markOf(1, 1), "0 0");
        d.is("plain", d.x.plain(0), true);
        d.is("TOP of this ORDER alone", d.x.markOf(1, 0) + " " + d.x.markOf(1, 1), "2 0");
        d.is("what is told stays", d.x.markOf(2, 0), 0);
        d.is("plain", d.x.plain(1), true);
        d.is("TOP", d.x.markOf(1, 1), 1);
    }

    private static void weave() {
        Due d = Due.with("25 weave: how many CHECKS", "class A{method m(){read;ret;}}");
        d.is("without ORDERS", d.x.weave(), 0);
        Due none = Due.with("25 weave: without ERRORS", THREE + "class A{method m()@t.a{push 1;ret;}}");
        none.is("none", none.x.weave(), 0);
        none.is("no flow() by that", none.x.state(20, 0, 8) + " " + none.x.state(20, 1, 8), "-1 -1");
        Due run = Due.with("25 (A run with CHECKS that goes on meets them from then on.)", THREE + "class A{field f@t.a;method m(){push 1@t.b;set A.f;push 1@t.b;set A.f;push 1;ret;}}");
        run.begin(20, true);
        run.is("ahead of weave()", run.go(2), "2");
        run.is("weave", run.x.weave(), 2);
        run.is("the run stands", run.tallies(), "1 0 2 20 2 1 1 20 1 0 0 0");
        run.is("behind it", run.go(9), "1");
        run.is("FAILED", run.tallies(), "4 0 3 20 3 0 1 20 1 0 0 1");
        run.begin(20, false);
        run.is("weave", run.x.weave(), 2);
        run.is("a run without CHECKS does not", run.go(9), "6");
        run.is("VALUE", run.x.run(0), 2);
    }

    private static void code() {
        Due d = Due.with("26 code: NONE if there is none such", THREE + "class A{field f;method m(p)@t.a{L:read@t.b;zero L;read;is t.c M;as t.b;M:ret;}}class B:A{}");
        String due = "read @ t . b ; zero 0 ; read ; is t . c 5 ; as t . b ; ret ;";
        d.is("code", d.x.code(20, false), due.length());
        d.is("the out", d.out(), due);
        for (int place : new int[] {0, 1, 19, 21, 30, 100, 120, -1, -80, LOW, HIGH}) {
            d.is("code(" + place + ")", d.x.code(place, false), -1);
            d.is("code(" + place + ")", d.x.code(place, true), -1);
        }
        d.is("THE OUT stays", d.out(), due);
        // The most ACTS, and LABELS at the first and the last of them.
        Due full = Due.with("26 code: forty ACTS", "class A{method m(){A:read;zero Z;" + Due.times(17, "read;pop;") + "jump A;jump Z;Z:read;ret;}}");
        int length = full.x.code(20, false);
        String text = full.out();
        full.is("as many bytes", text.length(), length);
        full.is("its front", text.startsWith("read ; zero 38 ; read ; pop ;"), true);
        full.is("its end", text.endsWith("jump 0 ; jump 38 ; read ; ret ;"), true);
    }

    private static void argument() {
        Due d = Due.with("27 argument: Argument k (0 .. 3) of runs is v; they are 0 at first. False: there is none such",
                "class A{method m(p,q,r,s){load p;load q;sub;load r;sub;load s;sub;ret;}method n(p){load p;ret;}}");
        d.begin(20, false);
        d.go(99);
        d.is("0 at first", d.x.run(1), 0);
        for (int k : new int[] {-1, 4, LOW, HIGH}) {
            d.is("argument(" + k + ")", d.x.argument(k, 5), false);
        }
        int[] values = {HIGH, 1, -1, LOW};
        for (int k = 0; k < 4; k++) {
            d.is("argument(" + k + ")", d.x.argument(k, values[k]), true);
        }
        d.begin(20, false);
        d.go(99);
        d.is("all four", d.x.run(1), HIGH - 1 + 1 - LOW);
        d.begin(30, false);
        d.go(99);
        d.is("as many as it has PARAMETERS", d.x.run(1), HIGH);
        d.feed("class A{method m(p){load p;ret;}}");
        d.compile();
        d.begin(20, false);
        d.go(9);
        d.is("they stay over compile()", d.x.run(1), HIGH);
    }

    private static void input() {
        Due d = Due.with("28 input: how many there are; NONE if there are 64. (Runs take them; they stay over compile().)", "class A{method m(){read;ret;}}");
        for (int k = 1; k <= 64; k++) {
            d.is("input", d.x.input(100 + k), k);
        }
        d.is("a 65th", d.x.input(999), -1);
        d.is("a 66th", d.x.input(999), -1);
        d.feed("class A{method m(){read;ret;}}");
        d.compile();
        d.feed("class");
        d.compile();
        d.feed("class A{method m(){read;ret;}}");
        d.compile();
        for (int k = 1; k <= 63; k++) {
            d.begin(20, false);
            d.go(9);
            d.is("INPUT " + k, d.x.run(1), 100 + k);
        }
        d.is("one is left", d.x.input(LOW), 2);
        d.begin(20, false);
        d.go(9);
        d.is("INPUT 64", d.x.run(1), 164);
        d.begin(20, false);
        d.go(9);
        d.is("the one that came then", d.x.run(1), LOW);
        d.begin(20, false);
        d.go(9);
        d.is("none is left", d.x.run(1), 0);
    }

    private static void begin() {
        Due d = Due.with("29 begin: IllegalStateException: no program. NoSuchElementException: no such METHOD", "class A{field f;method m(p){load p;ret;}}class B:A{}");
        for (int place : new int[] {0, 1, 19, 21, 22, 30, 100, 120, 1199, -1, -80, LOW, HIGH}) {
            d.is("begin(" + place + ")", d.begin(place, false), Due.NO_SUCH);
            d.is("begin(" + place + ")", d.begin(place, true), Due.NO_SUCH);
        }
        d.is("no run by that", d.x.run(0), 0);
        d.is("begin", d.begin(20, true), Due.NOTHING);
        d.is("under way", d.tallies(), "1 0 0 20 0 1 0 -1 -1 -1 0 0");
        d.go(1);
        d.is("begin again", d.begin(20, false), Due.NOTHING);
        d.is("anew", d.tallies(), "1 0 0 20 0 1 0 -1 -1 -1 0 0");
        d.feed("class");
        d.compile();
        d.is("no program is ahead of no METHOD", d.begin(0, false), Due.ILLEGAL_STATE);
    }

    private static void go() {
        Due d = Due.with("30 go: IllegalArgumentException: n is not 1 .. 10000; IllegalStateException: no run is under way", "class A{method m(){L:jump L;}method n(){read;ret;}}");
        for (int n : new int[] {0, -1, 10001, LOW, HIGH}) {
            d.is("go(" + n + ") without a run", d.go(n), Due.ILLEGAL_ARGUMENT);
        }
        for (int n : new int[] {1, 2, 9999, 10000}) {
            d.is("go(" + n + ") without a run", d.go(n), Due.ILLEGAL_STATE);
        }
        d.begin(20, false);
        for (int n : new int[] {0, -1, 10001, LOW, HIGH}) {
            d.is("go(" + n + ")", d.go(n), Due.ILLEGAL_ARGUMENT);
        }
        d.is("nothing was done", d.x.run(2), 0);
        d.is("go", d.go(1) + " " + d.go(2) + " " + d.go(9999) + " " + d.go(10000), "1 2 9999 10000");
        d.is("ACTS done", d.x.run(2), 20002);
        d.begin(30, false);
        d.is("to its end", d.go(10000), "2");
        d.is("ended", d.go(1), Due.ILLEGAL_STATE);
        d.is("a wrong n first", d.go(0), Due.ILLEGAL_ARGUMENT);
        d.begin(30, false);
        d.is("by as many as there are", d.go(2), "2");
        d.is("VALUE", d.x.run(0), 2);
    }

    private static void run() {
        Due d = Due.with("31 run: 0 of all (but 7, 8, 9: NONE) without a run; NONE for another what", THREE + "class A{method m(p)@t.a{push 5@t.b;as t.a;as t.c;ret;}}");
        d.is("without a run", d.tallies(), "0 0 0 0 0 0 0 -1 -1 -1 0 0");
        for (int what : new int[] {-1, 12, LOW, HIGH}) {
            d.is("run(" + what + ")", d.x.run(what), -1);
        }
        d.begin(20, false);
        String[] due = {"1 0 0 20 0 1 0 -1 -1 -1 0 0", "1 0 1 20 1 1 0 -1 -1 -1 0 0", "1 0 2 20 2 1 0 -1 -1 -1 1 0", "1 0 3 20 3 1 0 -1 -1 -1 1 0",
            "2 5 4 20 3 0 1 20 3 0 1 0"};
        for (int k = 0; k < due.length; k++) {
            d.is("behind " + k, d.tallies(), due[k]);
            d.is("go", d.go(1), k < 4 ? "1" : Due.ILLEGAL_STATE);
        }
        for (int what : new int[] {-1, 12, LOW, HIGH}) {
            d.is("run(" + what + ")", d.x.run(what), -1);
        }
    }

    private static void truth() {
        Due d = Due.with("32 truth: of a run that ended as VALUE; NONE if there is none such", THREE + "order s:x<y;class A{method m(){push 5@t.b@s.y;ret;}method n(){call A.n;ret;}}");
        d.is("no run", d.x.truth(0), -1);
        d.begin(20, false);
        d.go(1);
        d.is("under way", d.x.truth(0), -1);
        d.go(1);
        d.is("VALUE", d.x.truth(0) + " " + d.x.truth(1), "1 1");
        for (int order : new int[] {-1, 2, 4, 100, LOW, HIGH}) {
            d.is("truth(" + order + ")", d.x.truth(order), -1);
        }
        d.begin(30, false);
        d.is("a new run", d.x.truth(0), -1);
        d.go(100);
        d.is("DEEP", d.x.run(0) + " " + d.x.truth(0), "3 -1");
    }

    private static void wire() {
        Due d = Due.with("33 wire: 0, or 1 LACK, 2 TIE, 3 RING", "kind part;kind want(of:text);class A@part{field f@want(of='B');}class B{}class C:B{}");
        d.is("LACK", d.x.wire(), 1);
        d.is("give", d.give(100, 1, "part", 0), 1);
        d.is("0", d.x.wire(), 0);
        d.is("give", d.give(200, 1, "part", 0), 1);
        d.is("TIE", d.x.wire(), 2);
        d.is("give", d.give(1, 1, "want", 1, "of", 2, "A"), 1);
        d.is("RING", d.x.wire(), 3);
    }

    private static void wired() {
        Due d = Due.with("34 wired: NONE if it was 0 or there was none; NONE if there is none such",
                "kind part;kind want(of:text);class A@part{}class B@part{field e;field f@want(of='C');}class C@part{}class D@part{}");
        d.is("none yet", d.x.wired(0) + " " + d.x.wired(1) + " " + d.x.wired(2), "-1 -1 -1");
        d.is("wire", d.x.wire(), 0);
        d.is("0", d.x.wired(0) + " " + d.x.wired(1), "-1 -1");
        d.is("MADE", d.x.wired(2) + " " + d.x.wired(3) + " " + d.x.wired(4) + " " + d.x.wired(5), "0 2 1 3");
        for (int what : new int[] {-1, 6, 13, 14, 100, LOW, HIGH}) {
            d.is("wired(" + what + ")", d.x.wired(what), -1);
        }
        d.is("give", d.give(200, 0), 0);
        d.is("the MARKS changed", d.x.wired(2), -1);
        d.is("wire", d.x.wire(), 1);
        d.is("the FIELD, the CLASS", d.x.wired(0) + " " + d.x.wired(1), "102 1");
        d.is("MADE ahead of the fault", d.x.wired(2) + " " + d.x.wired(3), "0 -1");
        d.is("give", d.give(200, 1, "part", 0), 1);
        d.is("wire", d.x.wire(), 0);
        d.is("the latest one's", d.x.wired(0) + " " + d.x.wired(1) + " " + d.x.wired(5), "-1 -1 3");
        StringBuilder twelve = new StringBuilder("kind part;");
        for (char c = 'A'; c <= 'L'; c++) {
            twelve.append("class ").append(c).append("@part{}");
        }
        Due most = Due.with("34 wired: twelve PARTS", twelve.toString());
        most.is("wire", most.x.wire(), 0);
        most.is("the twelfth", most.x.wired(13), 11);
        most.is("no thirteenth", most.x.wired(14), -1);
    }
}
