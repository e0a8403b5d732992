/** Promises 18 to 26: flow, error, way, step, state, find, plain, weave, code. */
public final class FlowTest {
    private static final String THREE = "order t:a<b,b<c;";

    public static void main(String[] args) {
        errors();
        states();
        ways();
        openWays();
        found();
        weaveAndCode();
        whatEnds();
        Due.close();
    }

    private static Due flows(String program, int order, int errors) {
        Due d = Due.with(program, program);
        d.is("flow", d.x.flow(order), errors);
        return d;
    }

    private static void errors() {
        Due d = flows(THREE + "order o:x<y;class A{field f@t.a;method m(p@t.b,q,r@t.a)@t.b{push 1@t.c;ret;}"
                + "method n()@t.a@o.x{push 1@t.b;set A.f;push 2@t.b;push 3@t.c@o.y;push 4@t.c;call A.m;ret;}}", 0, 4);
        d.is("of ret", d.error(0), "20 1 0 2 1");
        d.is("of set", d.error(1), "30 1 0 1 0");
        d.is("of call, its third", d.error(2), "30 5 2 2 0");
        d.is("of ret behind call", d.error(3), "30 6 0 1 0");
        d.is("none", d.error(4), "-1 -1 -1 -1 -1");
        d.is("none", d.error(-1), "-1 -1 -1 -1 -1");
        d.is("no what", d.x.error(0, 5), -1);
        d.is("no what", d.x.error(0, -1), -1);
        d.is("no ORDER", d.x.flow(2), -1);
        d.is("which leaves what stands", d.error(0), "20 1 0 2 1");
        d.is("no ORDER", d.x.flow(-1), -1);
        d.is("another ORDER", d.x.flow(1), 1);
        // m is not marked in o: TOP, which n's ret gives on.
        d.is("of ret", d.error(0), "30 6 0 1 0");
        // An ACT that is not come to makes no ERROR; as makes the value what it says.
        flows(THREE + "class A{method m()@t.a{push 1@t.c;as t.a;ret;push 1@t.c;ret;}}", 0, 0);
        // Of another ORDER as and is do nothing.
        flows(THREE + "order o:x<y;class A{method m()@t.a{push 1@t.c;as o.x;is o.x L;L:ret;}}", 0, 1);
        // get brings THE MARK of the FIELD, TOP here; add brings the JOIN.
        flows(THREE + "class A{field f;method m()@t.b{get A.f;ret;}method n()@t.b{push 1;push 2@t.c;add;ret;}}", 0, 2);
        flows("class A{method m(){push 1;ret;}}", 0, -1);
    }

    private static void states() {
        Due d = flows("order t:z<l,z<r,l<u,r<u;class A{method m(p@t.l,q){push 1@t.r;zero L;load p;store w;jump M;"
                + "L:push 2@t.r;store w;M:load w;is t.l N;pop;push 5;N:ret;push 1;ret;}}", 0, 0);
        d.is("p", d.x.state(20, 0, 0), 1);
        d.is("q is TOP", d.x.state(20, 0, 1), 3);
        d.is("w is BOTTOM", d.x.state(20, 0, 2), 0);
        d.is("no LOCAL", d.x.state(20, 0, 3), -1);
        d.is("an empty stack", d.x.state(20, 0, 8), -1);
        d.is("push", d.x.state(20, 1, 8), 2);
        d.is("no second value", d.x.state(20, 1, 9), -1);
        d.is("w on one way", d.x.state(20, 4, 2), 1);
        d.is("the JOIN where ways meet", d.x.state(20, 7, 2), 3);
        d.is("the value", d.x.state(20, 8, 8), 3);
        // N: BOTTOM from push 5, l from is: the MEET of u and l.
        d.is("is: the MEET", d.x.state(20, 11, 8), 1);
        d.is("not come to", d.x.state(20, 12, 0), -1);
        d.is("no ACT", d.x.state(20, 14, 0), -1);
        d.is("no ACT", d.x.state(20, -1, 0), -1);
        d.is("no slot", d.x.state(20, 0, -1), -1);
        d.is("no slot", d.x.state(20, 1, 16), -1);
        d.is("no METHOD", d.x.state(21, 0, 0), -1);
        d.is("no METHOD", d.x.state(30, 0, 0), -1);

        // BOTTOM of LOCALS that are no PARAMETERS, where BOTTOM is not the first ELEMENT.
        Due last = flows("order t:b<c,a<b;class A{method m(p@t.b){load p;store v;load v;ret;}}", 0, 0);
        last.is("p", last.x.state(20, 0, 0), 0);
        last.is("v", last.x.state(20, 0, 1), 2);
        last.is("v", last.x.state(20, 2, 1), 0);

        // A loop: what comes round is joined too.
        Due loop = flows(THREE + "class A{method m()@t.b{push 1;store v;L:load v;read;zero E;push 1@t.c;add;store v;jump L;E:ret;}}", 0, 1);
        loop.is("v in the loop", loop.x.state(20, 2, 0), 2);
        loop.is("the ERROR", loop.error(0), "20 9 0 2 1");
    }

    private static void ways() {
        Due d = flows(THREE + "class A{method m()@t.b{read;zero L;push 1@t.a;jump M;L:push 2@t.c;M:ret;}}", 0, 1);
        d.is("way", d.x.way(0), 4);
        d.is("steps", d.steps(), "0 1 4 5");
        d.is("no step", d.x.step(4), -1);
        d.is("no step", d.x.step(-1), -1);
        d.is("no ERROR", d.x.way(1), -1);
        d.is("which leaves the steps", d.steps(), "0 1 4 5");
        d.is("no ERROR", d.x.way(-1), -1);
        d.is("flow", d.x.flow(0), 1);
        d.is("no way yet", d.x.step(0), -1);

        // Round by ACT 0.
        Due round = flows(THREE + "class A{method m(v@t.a)@t.b{L:read;zero M;push 1@t.c;store v;jump L;M:load v;ret;}}", 0, 1);
        round.is("v", round.x.state(20, 0, 0), 2);
        round.is("way", round.x.way(0), 9);
        round.is("steps", round.steps(), "0 1 2 3 4 0 1 5 6");

        // Two ways of one length: the lower ACT where they part.
        Due tie = flows(THREE + "class A{method m()@t.a{push 1@t.c;read;zero L;jump M;L:jump M;M:ret;}}", 0, 1);
        tie.is("way", tie.x.way(0), 5);
        tie.is("the lower ACT", tie.steps(), "0 1 2 3 5");
        Due back = flows(THREE + "class A{method m()@t.a{push 1@t.c;jump N;L:jump M;N:read;zero L;jump M;M:ret;}}", 0, 1);
        back.is("way", back.x.way(0), 6);
        back.is("the lower ACT, though a LABEL", back.steps(), "0 1 3 4 2 6");

        Due joined = flows("order t:z<l,z<r,l<u,r<u;class A{field f@t.l;method m(){read;zero L;push 1@t.l;push 0@t.z;jump M;"
                + "L:push 1@t.r;push 0@t.r;M:is t.z N;pop;push 1;ret;N:pop;set A.f;push 1;ret;}}", 0, 1);
        joined.is("the ERROR", joined.error(0), "20 12 0 3 1");
        // On the way through L the value below is r, which shows it.
        joined.is("way", joined.x.way(0), 7);

        // A value that is only joined: l on one way, r on the other.
        Due only = flows("order t:z<l,z<m,z<r,l<u,m<u,r<u;class A{method m(){read;zero L;push 1@t.l;jump M;L:push 1@t.r;M:"
                + "is t.m N;pop;push 1;ret;N:call A.n;ret;}method n(p@t.z){load p;ret;}}", 0, 1);
        only.is("the ERROR: u and m meet in m", only.error(0), "20 9 0 2 0");
        only.is("no way shows it", only.x.way(0), 0);
        only.is("no steps", only.x.step(0), -1);

        // is whose LABEL is the next ACT: the way as the next one, where the value is as it was.
        Due next = flows(THREE + "class A{method m()@t.a{push 1@t.c;is t.a L;L:ret;}}", 0, 1);
        next.is("way", next.x.way(0), 3);
        next.is("steps", next.steps(), "0 1 2");
    }

    /**
     * Three LOCALS and five turn round and round in a loop: 15 unlike STATES at each ACT of it. The ERROR comes
     * by a JOIN that no way has, so all SITUATIONS are met: 398 of them, and one for each ACT ahead of the loop.
     */
    private static String turning(String ahead) {
        return "order t:z<l,z<m,z<r,l<u,m<u,r<u;class A{method m(a@t.l,b@t.r,c@t.z,d@t.l)@t.z{"
                + "push 0;store e;push 0;store f;push 0;store g;push 0;store h;" + ahead
                + "L:load a;load b;load c;store a;store c;store b;"
                + "load d;load e;load f;load g;load h;store d;store h;store g;store f;store e;"
                + "push 0;as t.z;pop;read;zero X;jump L;X:load a;is t.m N;as t.z;N:ret;}}";
    }

    private static void openWays() {
        Due last = flows(turning("push 0;pop;"), 0, 1);
        last.is("400 SITUATIONS, none shows it", last.x.way(0), 0);
        Due open = flows(turning("push 0;as t.z;pop;"), 0, 1);
        open.is("a 401st", open.x.way(0), -2);
        open.is("no steps", open.x.step(0), -1);
        // What is shown ahead of the 401st is shown.
        Due early = flows(turning("push 0;as t.z;pop;").replace("N:ret", "N:push 1@t.l;add;ret"), 0, 1);
        early.is("way", early.x.way(0) > 0, true);
        early.is("its last step", early.x.step(early.x.way(0) - 1), early.x.error(0, 1));
    }

    private static void found() {
        Due d = Due.with("find", THREE + "class A{field f;field g@t.c;field h;method m(x,y){load x;set A.f;load y;ret;}"
                + "method n()@t.c{push 1@t.b;push 2@t.a;call A.m;pop;get A.f;ret;}method o(){push 1@t.c;set A.f;L:jump L;push 1@t.c;ret;}}");
        d.is("PLACES without", d.x.find(0), 6);
        d.is("f", d.x.markOf(1, 0), 2);
        d.is("h: nothing comes", d.x.markOf(3, 0), 0);
        d.is("m", d.x.markOf(20, 0), 0);
        d.is("x", d.x.markOf(21, 0), 1);
        d.is("y", d.x.markOf(22, 0), 0);
        d.is("o never ends", d.x.markOf(40, 0), 0);
        d.is("flow", d.x.flow(0), 0);
        d.is("plain", d.x.plain(0), true);
        d.is("f", d.x.markOf(1, 0), 2);
        d.is("h", d.x.markOf(3, 0), 2);
        d.is("no ORDER", d.x.plain(1), false);
        d.is("no ORDER", d.x.plain(-1), false);
        d.is("no ORDER", d.x.find(1), -1);
        d.is("no ORDER", d.x.find(-1), -1);
        d.is("find", d.x.find(0), 6);
        d.feed("class A{}");
        d.is("compile", d.compile(), Due.NOTHING);

        // Round METHODS that call one another; what is marked makes ERRORS still.
        Due r = Due.with("round", THREE + "class A{method m(p){load p;call A.n;ret;}method n(q){load q;zero L;push 1@t.b;call A.m;ret;"
                + "L:push 1;ret;}method k()@t.a{push 1;call A.m;ret;}method l(){push 1@t.b;call A.n;ret;}}");
        r.is("find", r.x.find(0), 5);
        r.is("p", r.x.markOf(21, 0), 1);
        r.is("q", r.x.markOf(31, 0), 1);
        r.is("m", r.x.markOf(20, 0), 0);
        r.is("flow", r.x.flow(0), 0);
        Due e = Due.with("an ERROR stays", THREE + "class A{field f@t.a;method m(p){load p;set A.f;push 1;ret;}"
                + "method n(){push 1@t.b;call A.m;ret;}}");
        e.is("find", e.x.find(0), 3);
        e.is("p", e.x.markOf(21, 0), 1);
        e.is("flow", e.x.flow(0), 1);
    }

    private static void whatEnds() {
        String[] enders = {"give", "rounds", "find", "plain"};
        for (String ender : enders) {
            Due d = prepared();
            if (ender.equals("give")) {
                d.feed(new byte[] {0});
                d.is("give", d.x.give(1), 0);
            } else if (ender.equals("rounds")) {
                d.is("rounds", d.x.rounds(), 0);
            } else if (ender.equals("find")) {
                d.is("find", d.x.find(0), 1);
            } else {
                d.is("plain", d.x.plain(0), true);
            }
            ended(d, ender);
        }
        Due d = prepared();
        d.feed(new byte[] {9});
        d.is("a give that is refused", d.x.give(1), -1001);
        d.x.find(1);
        d.x.plain(1);
        d.x.flow(1);
        d.x.weave();
        stands(d);
        d.feed(THREE + "class A{method m()@t.a{push 1@t.b;ret;}}");
        d.is("compile", d.compile(), Due.NOTHING);
        ended(d, "compile");
    }

    private static Due prepared() {
        Due d = Due.with("what ends CHECKS, ERRORS and the rest", THREE + "kind k;maker M:k adds @k;"
                + "class A@k{field f;method m()@t.a{push 1@t.b;ret;}}");
        d.is("flow", d.x.flow(0), 1);
        d.is("way", d.x.way(0), 2);
        d.is("weave", d.x.weave(), 1);
        d.is("wire", d.x.wire(), 0);
        d.is("begin", d.begin(20, true), Due.NOTHING);
        d.is("go", d.go(1), "1");
        stands(d);
        return d;
    }

    private static void stands(Due d) {
        d.is("error", d.error(0), "20 1 0 1 0");
        d.is("steps", d.steps(), "0 1");
        d.is("state", d.x.state(20, 1, 8), 1);
        d.is("run", d.x.run(0), 1);
        d.x.code(20, true);
        d.is("code", d.out(), "push 1 @ t . b ; check t . a 0 ; ret ;");
    }

    private static void ended(Due d, String by) {
        d.is(by + ": error", d.x.error(0, 0), -1);
        d.is(by + ": way", d.x.way(0), -1);
        d.is(by + ": step", d.x.step(0), -1);
        d.is(by + ": state", d.x.state(20, 0, 8), -1);
        d.is(by + ": state", d.x.state(20, 1, 8), -1);
        d.is(by + ": run", d.tallies(), "0 0 0 0 0 0 0 -1 -1 -1 0 0");
        d.is(by + ": go", d.go(1), Due.ILLEGAL_STATE);
        d.x.code(20, true);
        d.is(by + ": code", d.out(), "push 1 @ t . b ; ret ;");
    }

    private static void weaveAndCode() {
        Due d = Due.with("code", THREE + "order o:x<y;class A{field f@t.a@o.x;method m(p@t.a@o.x,q@t.b@o.x)@t.a@o.x{push 1;ret;}"
                + "method n(){L:read@o.y@t.c;dup;is t.b M;M:call A.m;zero L;push -1@o.y;set A.f;push 1;ret;}}");
        String plain = "read @ o . y @ t . c ; dup ; is t . b 3 ; call A . m ; zero 0 ; push - 1 @ o . y ; set A . f ; push 1 ; ret ;";
        d.is("code", d.x.code(30, true), plain.length());
        d.is("nothing is woven yet", d.out(), plain);
        d.is("weave", d.x.weave(), 5);
        d.is("code", d.x.code(30, false), plain.length());
        d.is("without CHECKS", d.out(), plain);
        d.x.code(30, true);
        d.is("with CHECKS", d.out(), "read @ o . y @ t . c ; dup ; is t . b 3 ; check t . a 1 ; check t . b 0 ; check o . x 1 ;"
                + " check o . x 0 ; call A . m ; zero 0 ; push - 1 @ o . y ; check o . x 0 ; set A . f ; push 1 ; ret ;");
        d.is("weave again", d.x.weave(), 5);
        d.is("code of a METHOD without", d.x.code(20, true), "push 1 ; ret ;".length());
        d.is("no METHOD", d.x.code(21, true), -1);
        d.is("no METHOD", d.x.code(0, false), -1);
        d.is("no METHOD", d.x.code(40, false), -1);
        Due late = Due.with("LABELS behind CHECKS", THREE + "class A{method m()@t.a{push 1@t.b;L:dup;zero M;jump L;M:ret;}}");
        late.is("weave", late.x.weave(), 1);
        late.x.code(20, true);
        late.is("code", late.out(), "push 1 @ t . b ; dup ; zero 4 ; jump 1 ; check t . a 0 ; ret ;");
        Due behind = Due.with("LABELS that stand behind", THREE + "class A{field f@t.a;method m(){push 1@t.b;set A.f;read;zero L;"
                + "push 1;ret;L:push 2;ret;}}");
        behind.is("weave", behind.x.weave(), 1);
        behind.x.code(20, true);
        behind.is("code", behind.out(), "push 1 @ t . b ; check t . a 0 ; set A . f ; read ; zero 7 ; push 1 ; ret ; push 2 ; ret ;");
        Due none = Due.with("no ORDERS", "class A{}");
        none.is("weave", none.x.weave(), 0);
    }
}
