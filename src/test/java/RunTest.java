/** Promises 27 to 32: argument, input, begin, go, run, truth. */
public final class RunTest {
    private static final String THREE = "order t:a<b,b<c;order o:x<y;";

    public static void main(String[] args) {
        argumentsAndInputs();
        beginnings();
        reckoning();
        branches();
        fieldsOfRuns();
        callsOfRuns();
        deep();
        left();
        broken();
        checks();
        checksOfOneAct();
        Due.close();
    }

    private static Due runs(String program, int place, boolean woven) {
        Due d = Due.with(program, program);
        if (woven) {
            d.x.weave();
        }
        d.is("begin", d.begin(place, woven), Due.NOTHING);
        return d;
    }

    /** The value of a METHOD without PARAMETERS. */
    private static void value(String acts, int value) {
        Due d = runs(THREE + "class A{field f=5;method m(){" + acts + "}}", 20, false);
        d.go(10000);
        d.is("how it ended", d.x.run(0), 2);
        d.is("its value", d.x.run(1), value);
    }

    private static void argumentsAndInputs() {
        Due d = Due.with("arguments and inputs", "class A{method m(p,q,r,s){load p;load q;sub;load r;sub;load s;sub;ret;}"
                + "method n(){read;read;sub;ret;}}");
        d.is("argument", d.x.argument(4, 1), false);
        d.is("argument", d.x.argument(-1, 1), false);
        d.is("begin", d.begin(20, false), Due.NOTHING);
        d.go(100);
        d.is("0 at first", d.x.run(1), 0);
        d.is("argument", d.x.argument(0, 1000), true);
        d.is("argument", d.x.argument(1, 200), true);
        d.is("argument", d.x.argument(2, 30), true);
        d.is("argument", d.x.argument(3, 4), true);
        d.begin(20, false);
        d.is("argument", d.x.argument(0, 0), true);
        d.go(100);
        d.is("as they were at begin", d.x.run(1), 766);
        d.is("input", d.x.input(9), 1);
        d.is("input", d.x.input(-2), 2);
        d.is("input", d.x.input(5), 3);
        d.begin(30, false);
        d.go(1);
        d.is("one was taken", d.x.input(6), 3);
        d.go(100);
        d.is("in their order", d.x.run(1), 11);
        d.feed("class A{method m(){read;read;mul;read;add;ret;}}");
        d.is("compile", d.compile(), Due.NOTHING);
        d.begin(20, false);
        d.go(100);
        d.is("they stay, and 0 comes behind them", d.x.run(1), 30);
        for (int k = 1; k <= 64; k++) {
            d.is("input", d.x.input(k), k);
        }
        d.is("a 65th", d.x.input(65), -1);
        d.begin(20, false);
        d.go(100);
        d.is("the first three", d.x.run(1), 5);
        d.is("input", d.x.input(0), 62);
        d.is("arguments stay too", d.x.argument(3, 4), true);
    }

    private static void beginnings() {
        Due d = Due.with("begin and go", "class A{field f;method m(p){load p;ret;}}");
        d.is("no run", d.tallies(), "0 0 0 0 0 0 0 -1 -1 -1 0 0");
        d.is("no run", d.go(1), Due.ILLEGAL_STATE);
        d.is("a wrong n ahead of no run", d.go(0), Due.ILLEGAL_ARGUMENT);
        d.is("no METHOD", d.begin(0, false), Due.NO_SUCH);
        d.is("no METHOD", d.begin(1, false), Due.NO_SUCH);
        d.is("no METHOD", d.begin(21, false), Due.NO_SUCH);
        d.is("no METHOD", d.begin(30, true), Due.NO_SUCH);
        d.is("no METHOD", d.begin(-80, true), Due.NO_SUCH);
        d.is("begin", d.begin(20, false), Due.NOTHING);
        d.is("under way", d.tallies(), "1 0 0 20 0 1 0 -1 -1 -1 0 0");
        d.is("truth", d.x.truth(0), -1);
        d.is("go", d.go(-1), Due.ILLEGAL_ARGUMENT);
        d.is("go", d.go(10001), Due.ILLEGAL_ARGUMENT);
        d.is("go", d.go(1), "1");
        d.is("under way", d.tallies(), "1 0 1 20 1 1 0 -1 -1 -1 0 0");
        d.is("a begin that fails", d.begin(30, false), Due.NO_SUCH);
        d.is("leaves the run", d.x.run(0), 1);
        d.is("go", d.go(10000), "1");
        d.is("VALUE", d.tallies(), "2 0 2 20 1 0 0 -1 -1 -1 0 0");
        d.is("ended", d.go(1), Due.ILLEGAL_STATE);
        d.is("begin again", d.begin(20, false), Due.NOTHING);
        d.is("anew", d.tallies(), "1 0 0 20 0 1 0 -1 -1 -1 0 0");
        d.is("no what", d.x.run(12), -1);
        d.is("no what", d.x.run(-1), -1);
        d.feed("class");
        d.is("compile", d.compile(), Due.ILLEGAL_ARGUMENT);
        d.is("no program", d.begin(20, false), Due.ILLEGAL_STATE);
        d.is("no program", d.x.truth(0), -1);
        Due loop = runs("class A{method m(){L:push 1;pop;jump L;}}", 20, false);
        loop.is("go", loop.go(10000), "10000");
        loop.is("go", loop.go(10000), "10000");
        loop.is("under way", loop.tallies(), "1 0 20000 20 2 1 0 -1 -1 -1 0 0");
    }

    private static void reckoning() {
        value("push 7;push -3;add;ret;", 4);
        value("push 7;push 9;sub;ret;", -2);
        value("push -7;push 9;mul;ret;", -63);
        value("push 999999999;push 999999999;mul;ret;", 999999999 * 999999999);
        value("push 999999999;dup;add;dup;add;ret;", 999999999 * 4);
        value("push 1;push 2;push 3;ret;", 3);
        value("push 1;push 2;pop;ret;", 1);
        value("push 8;store v;load v;load v;add;ret;", 16);
        value("jump L;push 3;store v;L:load v;ret;", 0);
        value("get A.f;dup;mul;ret;", 25);
        value("read;ret;", 0);

        Due d = runs(THREE + "class A{method m(){push 1@t.b;push 2@o.y;add;dup;sub;push 5@t.a;mul;ret;}}", 20, false);
        d.go(100);
        d.is("the JOIN in t", d.x.truth(0), 1);
        d.is("the JOIN in o", d.x.truth(1), 1);
        d.is("no ORDER", d.x.truth(2), -1);
        d.is("no ORDER", d.x.truth(-1), -1);
        Due read = runs("order t:b<c,a<b;class A{method m(p){load p;read@t.c;pop;read;add;ret;}}", 20, false);
        read.go(100);
        read.is("BOTTOM of arguments and of what is not told", read.x.truth(0), 2);
    }

    private static void branches() {
        value("push 0;zero L;push 1;ret;L:push 2;ret;", 2);
        value("push 5;zero L;push 1;ret;L:push 2;ret;", 1);
        value("push 4@t.b;is t.b L;pop;push 1;L:ret;", 4);
        value("push 4@t.a;is t.b L;pop;push 1;L:ret;", 4);
        value("push 4@t.c;is t.b L;pop;push 1;L:ret;", 1);
        value("push 4@t.c;is o.x L;pop;push 1;L:ret;", 4);
        value("push 4@t.c;as t.a;is t.b L;pop;push 1;L:ret;", 4);
        value("push 3;store n;push 1;store r;L:load n;zero E;load r;load n;mul;store r;load n;push 1;sub;store n;jump L;E:load r;ret;", 6);
    }

    private static void fieldsOfRuns() {
        Due d = Due.with("FIELDS", THREE + "class A{field f=5;}class B:A{method m(){get B.f;push 1@t.b;add;set A.f;get A.f;ret;}}");
        for (int k = 0; k < 2; k++) {
            d.begin(120, false);
            d.go(100);
            d.is("each run has its own", d.x.run(1), 6);
            d.is("with what it is", d.x.truth(0), 1);
        }
    }

    private static void callsOfRuns() {
        Due d = runs(THREE + "class A{method m(p,q,r){load p;load q;sub;load r;store z;load z;sub;load p;pop;ret;}"
                + "method n(){push 9;push 100@t.b;push 30;push 4;call A.m;sub;ret;}}", 30, false);
        d.is("go", d.go(5), "5");
        d.is("in the METHOD called", d.tallies(), "1 0 5 20 0 2 0 -1 -1 -1 0 0");
        d.is("go", d.go(100), "12");
        d.is("VALUE", d.tallies(), "2 -57 17 30 6 0 0 -1 -1 -1 0 0");
        d.is("truth", d.x.truth(0), 1);
        // The METHOD of the NAME in the nearest CLASS above; no other one is called in its place.
        Due up = runs("class A{method m(){push 1;ret;}method k(){call A.m;ret;}}class B:A{method m(){push 2;ret;}}"
                + "class C:B{method n(){call C.m;push 10;mul;call C.k;add;ret;}}", 220, false);
        up.go(100);
        up.is("value", up.x.run(1), 21);
    }

    private static void deep() {
        Due d = runs(THREE + "class A{field f@t.a;method m(p@t.a)@t.a{push 1@t.b;call A.m;ret;}}", 20, false);
        d.is("go", d.go(100), "23");
        // 12 under way: each brings a value that LEFT its MARK to the next one, but for the call that is not done.
        d.is("DEEP", d.tallies(), "3 0 23 20 1 0 11 20 1 0 0 0");
        d.is("truth", d.x.truth(0), -1);
        d.is("ended", d.go(1), Due.ILLEGAL_STATE);
        Due twelve = runs("class A{method m(p){load p;zero E;load p;push 1;sub;call A.m;ret;E:push 7;ret;}}", 20, false);
        twelve.x.argument(0, 11);
        twelve.begin(20, false);
        twelve.go(1000);
        twelve.is("twelve are not too many", twelve.x.run(0), 2);
        twelve.is("value", twelve.x.run(1), 7);
        twelve.x.argument(0, 12);
        twelve.begin(20, false);
        twelve.go(1000);
        twelve.is("thirteen are", twelve.x.run(0), 3);
    }

    private static void left() {
        Due d = runs(THREE + "class A{field f@t.a@o.x;method m(p@t.b@o.x,q@t.a)@o.x{load p;ret;}"
                + "method n()@t.b{push 1;set A.f;push 1@t.c@o.y;set A.f;push 1@t.c@o.y;push 1@o.y;call A.m;ret;}}", 30, false);
        d.go(3);
        d.is("none yet", d.tallies(), "1 0 3 30 3 1 0 -1 -1 -1 0 0");
        d.go(1);
        d.is("one for each ORDER", d.tallies(), "1 0 4 30 4 1 2 30 3 0 0 0");
        d.go(3);
        d.is("of call", d.x.run(6), 4);
        d.go(2);
        d.is("of the ret of m", d.x.run(6), 5);
        d.is("the run goes on", d.go(100), "1");
        d.is("VALUE", d.tallies(), "2 1 10 30 7 0 6 30 3 0 0 0");
        d.is("truth", d.x.truth(0), 2);
        Due second = runs(THREE + "class A{method m()@o.x{push 1@o.y;ret;}}", 20, false);
        second.go(9);
        second.is("the ORDER of the first one", second.tallies(), "2 1 2 20 1 0 1 20 1 1 0 0");
        // A FOUND MARK counts as one.
        Due found = Due.with("FOUND", THREE + "class A{field f;method m(){push 1;set A.f;push 1;ret;}}");
        found.is("find", found.x.find(0), 2);
        found.begin(20, false);
        found.go(9);
        found.is("none left", found.x.run(6), 0);
    }

    private static void broken() {
        Due d = runs(THREE + "class A{method m(){push 1@t.b@o.y;as t.b;as t.a;as t.c;as o.x;ret;}}", 20, false);
        d.go(9);
        d.is("two", d.tallies(), "2 1 6 20 5 0 0 -1 -1 -1 2 0");
        d.is("truth", d.x.truth(0), 2);
        d.is("truth", d.x.truth(1), 0);
    }

    private static void checks() {
        String program = THREE + "class A{field f@t.a;method m(p){load p;zero L;push 1@t.b;jump M;L:push 2;M:set A.f;push 3;ret;}}";
        Due d = Due.with(program, program);
        d.begin(20, true);
        d.x.argument(0, 1);
        d.begin(20, true);
        d.go(4);
        d.is("no CHECKS yet", d.x.run(11), 0);
        d.is("weave", d.x.weave(), 1);
        d.is("the run stands", d.x.run(2), 4);
        d.is("it meets them from now on", d.go(10), "0");
        d.is("FAILED", d.tallies(), "4 0 4 20 5 0 0 -1 -1 -1 0 1");
        d.is("ended", d.go(1), Due.ILLEGAL_STATE);
        d.is("truth", d.x.truth(0), -1);
        d.x.argument(0, 0);
        d.begin(20, true);
        d.is("go", d.go(3), "3");
        d.is("a CHECK belongs to what comes next", d.x.run(11), 0);
        d.is("go", d.go(10), "3");
        d.is("VALUE", d.tallies(), "2 3 6 20 7 0 0 -1 -1 -1 0 1");
        d.x.argument(0, 1);
        d.begin(20, false);
        d.is("without CHECKS", d.go(10), "7");
        d.is("it LEFT its MARK", d.tallies(), "2 3 7 20 7 0 1 20 5 0 0 0");
    }

    private static void checksOfOneAct() {
        Due d = runs(THREE + "class A{method m(p@t.b@o.x,q@t.a@o.x)@o.x{push 1;ret;}"
                + "method n()@o.x{read@o.x;zero L;push 1@t.b;push 2@t.b;jump M;L:push 1@o.y;push 2@t.c;M:as t.a;call A.m;ret;}}", 30, true);
        // q is a of t by now (that as was BROKEN); p may be y of o, and is.
        d.is("go", d.go(20), "5");
        d.is("FAILED", d.tallies(), "4 0 5 30 8 0 0 -1 -1 -1 1 1");
        d.x.input(1);
        d.begin(30, true);
        d.is("go", d.go(20), "10");
        d.is("all is well", d.tallies(), "2 1 10 30 9 0 0 -1 -1 -1 1 1");
        // DEEP comes behind the CHECKS of the call.
        Due deep = runs(THREE + "class A{method m(p@t.a)@t.a{push 1@t.b;as t.c;push 1;pop;as t.a;call A.m;ret;}}", 20, true);
        deep.go(1000);
        deep.is("DEEP", deep.x.run(0), 3);
        Due last = runs(THREE + "class A{method m(p@t.a,q@t.b)@t.a{load q;load p;load q;call A.n;ret;}"
                + "method n(x@t.b,y@t.a)@t.a{load x;load y;call A.m;as t.a;ret;}}", 20, true);
        // Six times four ACTS of m, five times three of n, and two; the twelfth call has its CHECK, but is not done.
        last.is("go", last.go(1000), "41");
        last.is("DEEP", last.tallies(), "3 0 41 30 2 0 0 -1 -1 -1 0 12");
    }
}
