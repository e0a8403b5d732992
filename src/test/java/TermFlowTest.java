/** Term 4, FLOW: each sentence that names a bound, at the bound and on both sides of it. */
public final class TermFlowTest {
    private static final String THREE = "order t:a<b,b<c;";
    private static final String FOUR = "order t:z<l,z<r,l<u,r<u;";
    private static final int NO = 255;

    public static void main(String[] args) {
        theMark();
        aheadOfAct0();
        pushAndRead();
        getAndCall();
        reckoned();
        movedAbout();
        asElement();
        isMeet();
        joinsOneByOne();
        theLeast();
        fullState();
        wantedOfSet();
        wantedOfRet();
        wantedOfCall();
        comeTo();
        rowOfErrors();
        finding();
        findingLeast();
        wayAlone();
        wayShortest();
        wayLower();
        wayNextOne();
        wayOfTheValue();
        situations();
        lastSituation();
        likeSituations();
        oneWay();
        checksAhead();
        labelsToChecks();
        takenOut();
        Due.close();
    }

    private static Due flows(String about, String program, int errors) {
        Due d = Due.with(about, program);
        d.is("flow", d.x.flow(0), errors);
        return d;
    }

    private static String acts(String acts) {
        return "class A{field f;field g@t.a;method m(){" + acts + "}method n(x)@t.b{push 1;ret;}method o(){push 1;ret;}}";
    }

    /** The STATE ahead of an ACT: LOCALS, a bar, the stack. */
    private static String state(Due d, int place, int act) {
        StringBuilder text = new StringBuilder();
        for (int slot = 0; slot < 16; slot++) {
            int e = d.x.state(place, act, slot);
            text.append(slot == 8 ? "|" : "").append(e < 0 ? "" : e);
        }
        return text.toString();
    }

    private static void theMark() {
        Due d = Due.with("THE MARK of a PLACE is the ELEMENT of its EFFECTIVE MARK, without one the FOUND one: TOP at first",
                THREE + "kind k=@t.a;class A{field f@t.b;field g;field h@k;method m(p@t.a,q)@t.b{load q;ret;}}class B:A{field i@no t;method m(p,q@no t){load p;ret;}}");
        int[] places = {1, 2, 3, 20, 21, 22, 101, 120, 121, 122};
        int[] due = {1, 2, 0, 1, 0, 2, 2, 1, 0, 2};
        for (int k = 0; k < places.length; k++) {
            d.is("markOf " + places[k], d.x.markOf(places[k], 0), due[k]);
        }
        d.is("find", d.x.find(0), 4);
        d.is("g is FOUND", d.x.markOf(2, 0), 0);
        d.is("f is EFFECTIVE", d.x.markOf(1, 0), 1);
    }

    private static void aheadOfAct0() {
        Due d = flows("ahead of ACT 0 THE MARKS of PARAMETERS, BOTTOM for other LOCALS",
                FOUR + "class A{method m(a@t.l,b,c@t.z,d@t.r){push 1;store v;push 1@t.u;store w;load w;ret;}}", 0);
        d.is("ACT 0", state(d, 20, 0), "130200|");
        d.is("behind both stores", state(d, 20, 4), "130203|");
        // Come back to, ACT 0 has the JOIN of both.
        Due back = flows("ahead of ACT 0, come back to", FOUR + "class A{method m(a@t.l){L:push 1@t.r;store v;load v;store a;jump L;}}", 0);
        back.is("ACT 0", state(back, 20, 0), "32|");
    }

    private static void pushAndRead() {
        Due d = flows("push, read: the ELEMENT told, else BOTTOM",
                "order s:x<y;order t:b<c,a<b;class A{method m(){push 1@t.c@s.y;push 1@s.y;push 1;read@t.b;read@s.x;read;ret;}}", 0);
        d.is("of s", state(d, 20, 6), "|110000");
        d.is("flow", d.x.flow(1), 0);
        d.is("of t, whose BOTTOM is its third ELEMENT", state(d, 20, 6), "|122022");
    }

    private static void getAndCall() {
        Due d = flows("get, call: THE MARK of the FIELD, of the METHOD",
                THREE + acts("get A.f;get A.g;push 1@t.c;call A.n;call A.o;ret;"), 0);
        d.is("TOP, a, b, TOP", state(d, 20, 5), "|2012");
        d.is("find", d.x.find(0), 4);
        d.is("flow", d.x.flow(0), 0);
        d.is("BOTTOM, a, b, BOTTOM", state(d, 20, 5), "|0010");
    }

    private static void reckoned() {
        for (String act : new String[] {"add", "sub", "mul"}) {
            Due d = flows("add, sub, mul: the JOIN", FOUR + "class A{method m(){push 1@t.l;push 1@t.r;" + act + ";push 1@t.l;push 1;" + act
                    + ";push 1@t.r;dup;" + act + ";ret;}}", 0);
            d.is("l and r", state(d, 20, 3), "|3");
            d.is("l and z", state(d, 20, 6), "|31");
            d.is("r and r", state(d, 20, 9), "|312");
        }
    }

    private static void movedAbout() {
        Due d = flows("load, store, dup as they do", FOUR + "class A{method m(p@t.l){load p;push 1@t.r;dup;store v;store p;load v;load p;pop;ret;}}", 0);
        String[] due = {"10|", "10|1", "10|12", "10|122", "12|12", "22|1", "22|12", "22|122", "22|12"};
        for (int act = 0; act < due.length; act++) {
            d.is("ACT " + act, state(d, 20, act), due[act]);
        }
    }

    private static void asElement() {
        String program = FOUR + "order s:x<y;class A{method m(){push 1@t.l@s.y;push 1@t.u@s.y;as t.r;as t.u;as t.z;as s.x;ret;}}";
        Due d = flows("as: the value on top gets the ELEMENT", program, 0);
        String[] due = {"|", "|1", "|13", "|12", "|13", "|10", "|10"};
        for (int act = 0; act < due.length; act++) {
            d.is("ACT " + act, state(d, 20, act), due[act]);
        }
        d.is("flow", d.x.flow(1), 0);
        d.is("of another ORDER it does nothing", state(d, 20, 5), "|11");
        d.is("of its own it does", state(d, 20, 6), "|10");
    }

    private static void isMeet() {
        String about = "is: on the way to its LABEL the value on top has the MEET of its own and the ELEMENT";
        String[] own = {"z", "l", "r", "u"};
        String[][] meets = {{"0", "0", "0", "0"}, {"0", "1", "0", "1"}, {"0", "0", "2", "2"}, {"0", "1", "2", "3"}};
        for (int value = 0; value < 4; value++) {
            for (int element = 0; element < 4; element++) {
                Due d = flows(about, FOUR + "order s:x<y;class A{method m(){push 1@t.u;push 1@t." + own[value] + ";is t." + own[element]
                        + " L;ret;L:ret;}}", 0);
                d.is("to its LABEL", state(d, 20, 4), "|3" + meets[value][element]);
                d.is("to the next one", state(d, 20, 3), "|3" + value);
                d.is("flow", d.x.flow(1), 0);
                d.is("of another ORDER as it was", state(d, 20, 4), "|00");
            }
        }
    }

    private static void joinsOneByOne() {
        Due d = flows("To an ACT come STATES from all that lead to it: their JOINS, one by one",
                FOUR + "class A{method m(p@t.l,q@t.z){push 1@t.r;read;zero L;pop;push 1@t.l;push 1;store q;jump M;L:load p;store q;push 1;store p;M:ret;}}", 0);
        d.is("on the one way", state(d, 20, 7), "10|1");
        d.is("on the other", state(d, 20, 11), "11|20");
        d.is("the JOIN of each", state(d, 20, 12), "11|3");
        Due full = flows("the JOIN of eight LOCALS and eight values", FOUR + "class A{method m(a@t.l,b@t.l,c@t.l,d@t.l){push 1@t.l;dup;store e;dup;store f;dup;store g;"
                + "store h;load a;load a;load a;load a;load a;load a;load a;read;zero L;load a;jump M;L:push 1@t.r;M:pop;push 1@t.r;store h;read;ret;}}", 0);
        full.is("the eighth value", state(full, 20, 20), "11111111|11111113");
        // is, whose LABEL is the next one, brings both.
        Due both = flows("both ways to one ACT", FOUR + "class A{method m(){push 1@t.l;is t.r L;L:ret;}}", 0);
        both.is("l and its MEET with r", state(both, 20, 2), "|1");
    }

    private static void theLeast() {
        Due d = flows("the least such", THREE + "class A{method m(p@t.b){push 1;store v;L:load v;store v;read;zero L;load p;store w;read;zero L;load v;ret;}}", 0);
        d.is("what only goes round is not raised", state(d, 20, 2), "101|");
        Due slow = flows("the least such, by many rounds", "order t:A<B,B<C,C<D,D<E,E<F,F<G,G<H,H<I,I<J,J<K,K<L;"
                + "class A{method m(p@t.L){push 1@t.A;store a;push 1@t.B;store b;push 1@t.C;store c;push 1@t.D;store d;push 1@t.E;store e;push 1@t.F;store f;"
                + "load p;store g;L:load b;store a;load c;store b;load d;store c;load e;store d;load f;store e;load g;store f;read;zero L;load a;ret;}}", 0);
        slow.is("all become TOP in time", state(slow, 20, 14), "11".repeat(8) + "|");
    }

    private static void fullState() {
        Due d = flows("LOCAL slot (0 .. 7), or 8 and a place on the stack from below", FOUR + "class A{method m(a@t.l,b@t.r,c@t.l,d@t.z){"
                + "push 1@t.r;store e;push 1@t.l;store f;push 1@t.u;store g;push 1@t.r;store h;"
                + "load a;load b;load c;load d;load e;load f;load g;load h;ret;}}", 0);
        d.is("eight and eight", state(d, 20, 16), "12102132|12102132");
        d.is("slot 7", d.x.state(20, 16, 7), 2);
        d.is("slot 15", d.x.state(20, 16, 15), 2);
        d.is("no slot 16", d.x.state(20, 16, 16), -1);
        d.is("no slot -1", d.x.state(20, 16, -1), -1);
        d.is("no ACT 17", d.x.state(20, 17, 0), -1);
    }

    private static void wantedOfSet() {
        String about = "WANTED: of set that its value is BELOW THE MARK of the FIELD";
        String[] names = {"z", "l", "r", "u"};
        boolean[][] below = {{true, true, true, true}, {false, true, false, true}, {false, false, true, true}, {false, false, false, true}};
        for (int value = 0; value < 4; value++) {
            for (int mark = 0; mark < 4; mark++) {
                Due d = flows(about, FOUR + "class A{field f@t." + names[mark] + ";method m(){push 1@t.u;push 1@t." + names[value] + ";set A.f;ret;}}",
                        below[value][mark] ? 0 : 1);
                d.is("error", d.error(0), below[value][mark] ? "-1 -1 -1 -1 -1" : "20 2 0 " + value + " " + mark);
            }
        }
        flows("without a MARK it is TOP", FOUR + "class A{field f;method m(){push 1@t.u;set A.f;push 1;ret;}}", 0);
        flows("the FIELD of the nearest CLASS", FOUR + "class A{field f@t.z;}class B:A{field f;method m(){push 1@t.u;set B.f;push 1@t.u;set A.f;push 1;ret;}}", 1);
    }

    private static void wantedOfRet() {
        String about = "WANTED: of ret of this METHOD";
        Due d = flows(about, THREE + "class A{method m()@t.b{push 1@t.c;push 1@t.a;read;zero L;ret;L:pop;ret;}}", 1);
        d.is("the value on top alone", d.error(0), "20 6 0 2 1");
        flows(about, THREE + "class A{method m()@t.b{push 1@t.b;ret;}method n(){push 1@t.c;ret;}}", 0);
        Due heir = flows("the MARK from above", THREE + "class A{method m()@t.a{push 1;ret;}}class B:A{method m(){push 1@t.b;ret;}}", 1);
        heir.is("error", heir.error(0), "120 1 0 1 0");
    }

    private static void wantedOfCall() {
        Due d = flows("WANTED: of call each value BELOW that of its PARAMETER", THREE + "class A{method m(a@t.a,b@t.b,c@t.c,d@t.a){push 1;ret;}"
                + "method n(){push 1@t.c;push 1@t.b;push 1@t.c;push 1@t.c;push 1@t.b;call A.m;ret;}}", 3);
        d.is("the first, of four from below the top", d.error(0), "30 5 0 1 0");
        d.is("the second", d.error(1), "30 5 1 2 1");
        d.is("the fourth", d.error(2), "30 5 3 1 0");
        flows("of a call without PARAMETERS nothing", THREE + "class A{method m(){push 1;ret;}method n(){push 1@t.c;call A.m;ret;}}", 0);
    }

    private static void comeTo() {
        Due d = flows("An ERROR is a value that is not so, in the STATE of an ACT that is come to", THREE
                + "class A{method m()@t.a{push 1@t.b;jump L;push 1@t.c;ret;L:ret;push 1@t.c;ret;}}", 1);
        d.is("error", d.error(0), "20 4 0 1 0");
        d.is("not come to", state(d, 20, 2) + state(d, 20, 3) + state(d, 20, 5) + state(d, 20, 6), "||||");
    }

    private static void rowOfErrors() {
        Due d = flows("ERRORS stand by METHODS' PLACES, ACTS, PARAMETERS", THREE + "class A{method k(p@t.a,q@t.a){L:push 1@t.b;ret;}"
                + "method m()@t.a{jump L;M:push 1@t.b;push 1@t.b;call A.k;ret;L:push 1@t.b;zero M;push 1@t.b;ret;}}"
                + "class B{field f@t.a;method m(){push 1@t.b;set B.f;push 1@t.c;push 1;call A.k;ret;}}", 6);
        String[] due = {"30 3 0 1 0", "30 3 1 1 0", "30 4 0 2 0", "30 8 0 1 0", "120 1 0 1 0", "120 4 0 2 0"};
        for (int i = 0; i < due.length; i++) {
            d.is("ERROR " + i, d.error(i), due[i]);
        }
        d.is("no more", d.error(6), "-1 -1 -1 -1 -1");
    }

    private static void finding() {
        String about = "FINDING: the FOUND MARKS of FIELDS, METHODS, PARAMETERS without an EFFECTIVE one";
        Due d = Due.with(about, THREE + "kind k=@t.a;class A{field f;field g@t.b;field h@k;field i@no t;method m(p,q@t.a)@t.c{load p;ret;}}"
                + "class B:A{method m(p,q){load p;ret;}method n(){push 1;ret;}}");
        d.is("f, i, p, p of B, n", d.x.find(0), 5);
        d.is("give", d.give(1, 1, "t", 1, "at", 2, "x"), 1);
        d.is("a WARPED one is EFFECTIVE", d.x.find(0), 4);
        d.is("give", d.give(2, 2, "t", NO, "t", NO), 2);
        d.is("without one that COUNTS", d.x.find(0), 5);
        Due none = Due.with(about, THREE + "class A{field f@t.a;}");
        none.is("none is without", none.x.find(0), 0);
    }

    private static void findingLeast() {
        String about = "become the least with which none of them makes an ERROR: BOTTOM first, then the JOIN with all that comes to them";
        Due d = Due.with(about, FOUR + "class A{field f;field g;field h;method m(p,q){load p;set A.f;load q;set A.g;get A.f;ret;}"
                + "method n()@t.u{push 1@t.l;push 1;call A.m;ret;}method o()@t.u{push 1@t.r;push 1@t.r;call A.m;pop;get A.g;ret;}"
                + "method r(){L:jump L;push 1@t.u;ret;}}");
        d.is("find", d.x.find(0), 7);
        int[] places = {1, 2, 3, 20, 21, 22, 50};
        int[] due = {3, 2, 0, 3, 3, 2, 0};
        for (int k = 0; k < places.length; k++) {
            d.is("FOUND at " + places[k], d.x.markOf(places[k], 0), due[k]);
        }
        d.is("none makes an ERROR", d.x.flow(0), 0);
        // What is told still makes ERRORS, also by what was FOUND.
        Due told = Due.with(about, FOUR + "class A{field f@t.l;method m(p){load p;set A.f;push 1;ret;}method n(){push 1@t.r;call A.m;ret;}}");
        told.is("find", told.x.find(0), 3);
        told.is("flow", told.x.flow(0), 1);
        told.is("the one that is told", told.error(0), "20 1 0 2 1");
        // is brings less to them; as what it says.
        Due less = Due.with(about, FOUR + "class A{field f;field g;method m(p@t.u){load p;is t.l L;as t.r;set A.g;push 1;ret;L:set A.f;push 1;ret;}}");
        less.is("find", less.x.find(0), 3);
        less.is("f", less.x.markOf(1, 0), 1);
        less.is("g", less.x.markOf(2, 0), 2);
        // Twelve ELEMENTS, METHODS that bring one another up one by one.
        Due far = Due.with(about, "order t:A<B,B<C,C<D;class A{method m(p){load p;call A.n;ret;}method n(p){load p;call A.o;ret;}method o(p){load p;ret;}"
                + "method q()@t.D{push 1@t.C;call A.m;ret;}}");
        far.is("find", far.x.find(0), 6);
        far.is("the last one", far.x.markOf(41, 0), 2);
        far.is("and what it gives back", far.x.markOf(20, 0), 2);
        far.is("another ORDER", far.x.find(1), -1);
        far.is("find again", far.x.find(0), 6);
        far.is("the same", far.x.markOf(41, 0), 2);
    }

    private static void wayAlone() {
        String about = "with the STATES as they are on that way alone (nothing is joined where ways meet)";
        // l by one way, r by the other: joined they are u, and u is never there.
        Due d = flows(about, "order t:z<l,z<r,l<m,r<m,m<u;class A{method m()@t.m{read;zero L;push 1@t.l;jump M;L:push 1@t.r;M:ret;}}", 0);
        d.is("no ERROR", d.x.way(0), -1);
        Due only = flows(about, FOUR + "class A{method n(p@t.l,q@t.l){push 1;ret;}method m(){read;zero L;push 1@t.l;push 1@t.r;jump M;"
                + "L:push 1@t.r;push 1@t.l;M:call A.n;ret;}}", 2);
        only.is("the first value is wrong by L", only.x.way(0), 5);
        only.is("steps", only.steps(), "0 1 5 6 7");
        only.is("the second one is wrong by the other", only.x.way(1), 6);
        only.is("steps", only.steps(), "0 1 2 3 4 7");
        Due none = flows("0 if no way shows it", "order t:z<l,z<m,z<r,l<u,m<u,r<u;class A{method m()@t.z{read;zero L;push 1@t.l;jump M;L:push 1@t.r;M:"
                + "is t.m N;as t.z;N:ret;}}", 1);
        none.is("way", none.x.way(0), 0);
        none.is("no steps", none.x.step(0), -1);
    }

    private static void wayShortest() {
        String about = "the shortest one to the ACT on which the value is not so";
        Due d = flows(about, THREE + "class A{method m()@t.a{push 1@t.b;read;zero L;read;pop;read;pop;L:ret;}}", 1);
        d.is("way", d.x.way(0), 4);
        d.is("by the LABEL", d.steps(), "0 1 2 7");
        Due next = flows(about, THREE + "class A{method m()@t.a{push 1@t.b;read;zero L;jump M;L:read;pop;M:ret;}}", 1);
        next.is("way", next.x.way(0), 5);
        next.is("by the next one", next.steps(), "0 1 2 3 6");
        Due one = flows("one ACT alone can't be wrong; two can", THREE + "class A{method m(p@t.b)@t.a{load p;ret;}}", 1);
        one.is("way", one.x.way(0), 2);
        one.is("steps", one.steps(), "0 1");
        // The shortest one does not show it, a longer one by the same ACT does.
        Due longer = flows(about, THREE + "class A{method m()@t.a{push 1;store v;L:load v;read;zero M;push 1@t.b;store v;pop;jump L;M:ret;}}", 1);
        longer.is("way", longer.x.way(0), 13);
        longer.is("round once", longer.steps(), "0 1 2 3 4 5 6 7 8 2 3 4 9");
    }

    private static void wayLower() {
        String about = "of several the one with the lower ACT where they part";
        Due d = flows(about, THREE + "class A{method m()@t.a{push 1@t.b;read;zero L;jump M;L:jump M;M:ret;}}", 1);
        d.is("way", d.x.way(0), 5);
        d.is("the next one is lower", d.steps(), "0 1 2 3 5");
        Due back = flows(about, THREE + "class A{method m()@t.a{push 1@t.b;jump N;L:jump M;N:read;zero L;jump M;M:ret;}}", 1);
        back.is("way", back.x.way(0), 6);
        back.is("the LABEL is lower", back.steps(), "0 1 3 4 2 6");
        // They part twice: the first place counts.
        Due twice = flows(about, THREE + "class A{method m()@t.a{push 1@t.b;read;zero P;jump Q;P:read;zero R;jump S;Q:read;zero T;jump S;R:jump S;T:jump S;S:ret;}}", 1);
        twice.is("way", twice.x.way(0) > 0, true);
        twice.is("ACT 4", twice.steps(), "0 1 2 4 5 6 12");
    }

    private static void wayNextOne() {
        String about = "an ACT that is both next one and LABEL: the next one";
        // On the way as the next one the value is c, on that as the LABEL a: the next one is looked at first.
        Due d = flows(about, THREE + "class A{method m()@t.b{push 1@t.c;is t.a L;L:ret;}}", 1);
        d.is("way", d.x.way(0), 3);
        d.is("steps", d.steps(), "0 1 2");
        Due zero = flows(about, THREE + "class A{method m()@t.b{push 1@t.c;read;zero L;L:ret;}}", 1);
        zero.is("way", zero.x.way(0), 4);
        zero.is("steps", zero.steps(), "0 1 2 3");
    }

    private static void wayOfTheValue() {
        Due d = flows("the ACT on which the value is not so: that one's, not another's", THREE + "class A{field f@t.a;method m()@t.a{push 1@t.b;set A.f;"
                + "push 1@t.c;ret;}method n()@t.a{push 1@t.b;ret;}}", 3);
        d.is("of set", d.x.way(0), 2);
        d.is("steps", d.steps(), "0 1");
        d.is("of ret, which goes by set too", d.x.way(1), 4);
        d.is("steps", d.steps(), "0 1 2 3");
        d.is("of the other METHOD", d.x.way(2), 2);
        d.is("steps", d.steps(), "0 1");
    }

    /**
     * A LOCAL among three and one among five go round in a loop, so that each of its 22 ACTS has 15 SITUATIONS, and
     * what is behind it has them too; ahead stand pairs of ACTS that bring one SITUATION each.
     */
    private static String turning(String ahead, String last) {
        return "order t:z<l,z<m,z<r,l<u,m<u,r<u;class A{method m(a@t.l,b@t.r,c@t.z,d@t.l)@t.z{"
                + "push 0;store e;push 0;store f;push 0;store g;push 0;store h;" + ahead
                + "L:load a;load b;load c;store a;store c;store b;"
                + "load d;load e;load f;load g;load h;store d;store h;store g;store f;store e;"
                + "push 0;as t.z;pop;read;zero X;jump L;X:load a;is t.m N;as t.z;N:" + last + "}}";
    }

    private static void situations() {
        String about = "when a 401st would be met (it, too, is not looked at), it is OPEN";
        // 398 SITUATIONS and one for each ACT ahead of the loop.
        String[] aheads = {"", "push 0;pop;", "push 0;as t.z;pop;"};
        int[] due = {0, 0, -2};
        for (int k = 0; k < aheads.length; k++) {
            Due d = flows(about, turning(aheads[k], "ret;"), 1);
            d.is("with " + aheads[k], d.x.way(0), due[k]);
            d.is("no steps", d.x.step(0), -1);
        }
        // A way with steps stands over one that is OPEN and one that no way shows.
        Due stays = flows("step: the latest way() that had ACTS", turning("push 0;as t.z;pop;", "ret;}method n()@t.z{push 1@t.l;ret;"), 2);
        stays.is("a way", stays.x.way(1), 2);
        stays.is("steps", stays.steps(), "0 1");
        stays.is("OPEN", stays.x.way(0), -2);
        stays.is("steps", stays.steps(), "0 1");
        Due unshown = flows("step: the latest way() that had ACTS", turning("", "ret;}method n()@t.z{push 1@t.l;ret;"), 2);
        unshown.is("a way", unshown.x.way(1), 2);
        unshown.is("no way shows it", unshown.x.way(0), 0);
        unshown.is("steps", unshown.steps(), "0 1");
    }

    /**
     * In a cube, is with its LABEL at the next ACT makes two STATES of one, so that 64 come to the ACTS behind eight of
     * them; from E on there are eight. The one that shows the ERROR is the 395th, and one more for each ACT ahead.
     */
    private static void lastSituation() {
        String about = "SITUATIONS .. are counted as they are first met, in this order (the first one is that of ACT 0), and looked at then";
        String[] aheads = {"", "read;pop;read;pop;", "read;pop;read;as t.z;pop;", "read;pop;read;pop;read;pop;", "read;pop;read;pop;read;as t.z;pop;"};
        int[] due = {14, 18, 19, -2, -2};
        for (int k = 0; k < aheads.length; k++) {
            shows(about, cube(aheads[k], "is t.w K;K:", "dup;ret;"), due[k]);
        }
        // Back to ACT 0, and to an ACT that has it as its own LABEL, with the same STATE: no new SITUATION.
        shows("back to ACT 0", cube("S:read;zero S;read;as t.z;pop;", "is t.w K;K:", "dup;ret;"), 19);
        shows("back to ACT 0", cube("S:read;zero S;read;pop;read;pop;", "is t.w K;K:", "dup;ret;"), -2);
        // With eight LOCALS, and a BOTTOM that is not the first ELEMENT.
        String[] back = {cube("S:read;zero S;read;as t.z;pop;", "is t.w K;K:", "dup;ret;"), cube("S:read;zero S;read;pop;read;pop;", "is t.w K;K:", "dup;ret;")};
        for (int k = 0; k < 2; k++) {
            shows("back to ACT 0", back[k].replace("order t:", "order t:a<x,").replace("method m()", "method m(p,q,r,s)").replace("dup;ret;}}",
                    "dup;ret;store a;store b;store c;store d;}}"), k == 0 ? 19 : -2);
        }
        // The 400th shows it: what else the ACT ahead leads to, a 401st, is not met any more.
        shows("the 400th", cube("read;pop;read;as t.z;pop;", "is t.w K;K:", "is t.v Z;ret;Z:pop;push 1;ret;"), 19);
        shows("the 401st", cube("read;pop;read;pop;read;pop;", "is t.w K;K:", "is t.v Z;ret;Z:pop;push 1;ret;"), -2);
        // An ACT that leads to itself is lower than the next one, so its new STATE is counted first.
        shows("to itself", cube("read;pop;read;pop;", "is t.w K;K:", "M:is t.v M;ret;"), 18);
        shows("to itself", cube("read;pop;read;as t.z;pop;", "is t.w K;K:", "M:is t.v M;ret;"), -2);
    }

    private static String cube(String ahead, String third, String last) {
        return "order t:z<a,z<b,z<c,a<x,b<x,a<y,c<y,b<w,c<w,x<u,y<u,w<u,z<v,v<u;class A{field f;method n(p,q){push 1;ret;}method m()@t.z{" + ahead
                + "read;zero E;push 1@t.u;is t.x B;B:is t.y C;C:is t.w D;D:push 1@t.u;is t.x F;F:is t.y G;G:is t.w H;H:read;pop;read;pop;push 1;ret;"
                + "E:push 1@t.u;is t.x I;I:is t.y J;J:" + third + "read;pop;read;pop;read;pop;" + last + "}}";
    }

    private static void shows(String about, String program, int length) {
        Due d = flows(about + " [" + program + "]", program, 1);
        for (int k = 0; k < 2; k++) {
            d.is("way", d.x.way(0), length);
            d.is("its last step", d.x.step(Math.max(length - 1, 0)), length < 0 ? -1 : d.x.error(0, 1));
        }
    }

    /**
     * Two ways meet with the same STATE, whatever was on the stack of one of them: all behind is met once, some 360
     * SITUATIONS with the ERROR's (twice would be too much, for behind it 64 STATES of two LOCALS go on).
     */
    private static void likeSituations() {
        String[] aside = {"push 0@t.u;pop;", "push 0@t.u;set A.f;", "push 0@t.u;zero P;", "push 0@t.u;store c;", "get A.f;pop;", "push 0@t.u;dup;add;pop;",
            "push 0@t.u;dup;sub;pop;", "push 0@t.u;dup;call A.n;pop;", "push 0@t.u;as t.x;pop;", "push 0@t.u;is t.x Q;Q:pop;", "push 0@t.u;dup;pop;pop;"};
        for (String acts : aside) {
            shows("unlike ones of ACT and STATE", "order t:z<a,z<b,z<c,a<x,b<x,a<y,c<y,b<w,c<w,x<u,y<u,w<u;class A{field f;method n(p,q){push 1;ret;}"
                    + "method m(c)@t.z{read;zero P;" + acts + "P:read;zero E;push 1@t.u;is t.x B;B:is t.y C;C:is t.w D;D:store a;push 1@t.u;is t.x F;F:is t.y G;G:is t.w H;"
                    + "H:store b;read;pop;read;ret;E:read;pop;read;pop;read;pop;read;pop;read;pop;push 1@t.u;as t.u;ret;}}", 17);
        }
    }

    /** One way alone, round and round: 8 ACTS and those told ahead, then 26 in each of 15 turns. */
    private static String alone(String locals, String ofE, String ofH, String ahead, String asked) {
        return "order t:z<l,z<m,z<r,l<u,m<u,r<u;class A{field f@t.z;method m(" + locals + "){push 0@t." + ofE + ";store e;push 0;store f;push 0;store g;push 0@t."
                + ofH + ";store h;" + ahead + "L:load a;load b;load c;store a;store c;store b;load d;load e;load f;load g;load h;store d;store h;store g;store f;store e;"
                + asked + "is t.m N;as t.z;N:set A.f;push 0;as t.z;pop;jump L;}}";
    }

    private static void oneWay() {
        String about = "when a 401st would be met: it is met by the 400th alone";
        // a is l, r and z in turn; the ERROR comes by their JOIN, which no way has.
        String[] aheads = {"", "push 0;pop;", "push 0;as t.z;pop;"};
        int[] due = {0, 0, -2};
        for (int k = 0; k < aheads.length; k++) {
            Due d = flows(about, alone("a@t.l,b@t.r,c@t.z,d@t.z", "z", "l", aheads[k], "push 0;pop;load a;"), 1);
            d.is("with " + aheads[k], d.x.way(0), due[k]);
            d.is("again", d.x.way(0), due[k]);
        }
        // a is l in each third turn, d is r in each fifth: both in the fourteenth, when their JOIN has a MEET with m.
        Due far = flows("the longest way", alone("a@t.z,b@t.l,c@t.z,d@t.z", "r", "z", "", "load a;load d;add;"), 1);
        far.is("8, 25 in each of 13 turns, 21", far.x.way(0), 354);
        int turns = 0;
        for (int k = 0; k < 354; k++) {
            turns += far.x.step(k) == 8 ? 1 : 0;
        }
        far.is("so many turns", turns, 14);
        far.is("its ends", far.x.step(0) + " " + far.x.step(353) + " " + far.x.step(354), "0 " + far.x.error(0, 1) + " -1");
    }

    private static void checksAhead() {
        Due d = Due.with("for each ERROR of each ORDER (the ORDERS one after the other at one ACT) a CHECK stands ahead of its ACT",
                "order s:x<y;order t:a<b,b<c;class A{method k(p@t.a@s.x,q@t.b@s.x)@t.a{push 1@t.b;ret;}"
                + "method m(){push 1@t.b@s.y;push 1@t.c@s.y;call A.k;ret;}method n(){push 1;ret;push 1@t.c;push 1;call A.k;ret;}}");
        d.is("weave", d.x.weave(), 5);
        d.x.code(20, true);
        d.is("k", d.out(), "push 1 @ t . b ; check t . a 0 ; ret ;");
        d.x.code(30, true);
        d.is("m", d.out(), "push 1 @ t . b @ s . y ; push 1 @ t . c @ s . y ; check s . x 1 ; check s . x 0 ; check t . a 1 ; check t . b 0 ;"
                + " call A . k ; ret ;");
        d.x.code(40, true);
        d.is("n: what is not come to has none", d.out(), "push 1 ; ret ; push 1 @ t . c ; push 1 ; call A . k ; ret ;");
        d.is("weave again", d.x.weave(), 5);
        d.x.code(20, true);
        d.is("once", d.out(), "push 1 @ t . b ; check t . a 0 ; ret ;");
        // Four ORDERS and four PARAMETERS: sixteen CHECKS at one ACT.
        Due most = Due.with("the most CHECKS at one ACT", "order o:a<b;order p:a<b;order q:a<b;order r:a<b;kind k=@o.a@p.a@q.a@r.a;"
                + "class A{method k(w@k,x@k,y@k,z@k){push 1;ret;}method m(){push 1@o.b@p.b@q.b@r.b;dup;dup;dup;call A.k;ret;}}");
        most.is("weave", most.x.weave(), 16);
        most.x.code(30, true);
        StringBuilder checks = new StringBuilder("push 1 @ o . b @ p . b @ q . b @ r . b ; dup ; dup ; dup ;");
        for (char order = 'o'; order <= 'r'; order++) {
            for (int k = 3; k >= 0; k--) {
                checks.append(" check ").append(order).append(" . a ").append(k).append(" ;");
            }
        }
        most.is("code", most.out(), checks + " call A . k ; ret ;");
    }

    private static void labelsToChecks() {
        Due d = Due.with("LABELS lead to the first CHECK of their ACT", "order s:x<y;order t:a<b;class A{method m()@s.x@t.a{push 1@s.y@t.b;L:dup;zero M;jump L;M:ret;}}");
        d.is("weave", d.x.weave(), 2);
        d.x.code(20, true);
        d.is("M is 4, not 6", d.out(), "push 1 @ s . y @ t . b ; dup ; zero 4 ; jump 1 ; check s . x 0 ; check t . a 0 ; ret ;");
        d.x.code(20, false);
        d.is("without CHECKS", d.out(), "push 1 @ s . y @ t . b ; dup ; zero 4 ; jump 1 ; ret ;");
        // A run comes by its LABEL to the CHECKS.
        Due run = Due.with("a run by a LABEL", "order s:x<y;order t:a<b;class A{method m()@s.x@t.a{push 0@s.y@t.b;L:dup;zero M;jump L;M:ret;}}");
        run.is("weave", run.x.weave(), 2);
        run.begin(20, true);
        run.is("go", run.go(9), "3");
        run.is("FAILED at the first CHECK", run.tallies(), "4 0 3 20 4 0 0 -1 -1 -1 0 1");
    }

    private static Due woven() {
        Due d = Due.with("compile(), give() that tells how many, rounds() with a program, find() and plain() of an ORDER take the CHECKS out (also if"
                + " nothing was changed); there is no run then, and no ERRORS, WAY, STATES, no wire()",
                THREE + "order o:x;kind part;kind want(of:text);class A@part{field f@want(of='Z');method m()@t.a{push 1@t.b;ret;}}");
        d.is("flow", d.x.flow(0), 1);
        d.is("way", d.x.way(0), 2);
        d.is("weave", d.x.weave(), 1);
        d.is("wire", d.x.wire(), 1);
        d.is("begin", d.begin(20, false), Due.NOTHING);
        d.is("go", d.go(9), "2");
        stands(d, true);
        return d;
    }

    private static void stands(Due d, boolean still) {
        d.is("error", d.error(0), still ? "20 1 0 1 0" : "-1 -1 -1 -1 -1");
        d.is("way", d.x.way(0), still ? 2 : -1);
        d.is("steps", d.steps(), still ? "0 1" : "");
        d.is("state", d.x.state(20, 1, 8), still ? 1 : -1);
        d.is("run", d.tallies(), still ? "2 1 2 20 1 0 1 20 1 0 0 0" : "0 0 0 0 0 0 0 -1 -1 -1 0 0");
        d.is("truth", d.x.truth(0), still ? 1 : -1);
        d.is("wired", d.x.wired(0), still ? 1 : -1);
        d.is("wired", d.x.wired(1), still ? 0 : -1);
        d.x.code(20, true);
        d.is("code", d.out(), still ? "push 1 @ t . b ; check t . a 0 ; ret ;" : "push 1 @ t . b ; ret ;");
    }

    private static void takenOut() {
        Due give = woven();
        give.is("give", give.give(0, 1, "part", 0), 1);
        stands(give, false);
        Due rounds = woven();
        rounds.is("rounds", rounds.x.rounds(), 0);
        stands(rounds, false);
        Due find = woven();
        find.is("find", find.x.find(0), 1);
        stands(find, false);
        Due other = woven();
        other.is("find of another ORDER", other.x.find(1), 2);
        stands(other, false);
        Due plain = woven();
        plain.is("plain", plain.x.plain(0), true);
        stands(plain, false);
        Due compile = woven();
        compile.feed(THREE + "class A{method m()@t.a{push 1@t.b;ret;}}");
        compile.is("compile", compile.compile(), Due.NOTHING);
        stands(compile, false);
        Due fault = woven();
        fault.feed("class");
        fault.is("compile", fault.compile(), Due.ILLEGAL_ARGUMENT);
        fault.is("run", fault.x.run(0), 0);
        fault.is("error", fault.x.error(0, 0), -1);
        fault.is("step", fault.x.step(0), -1);
        fault.is("wired", fault.x.wired(0), -1);
        // What is refused, and what only asks, takes nothing out.
        Due still = woven();
        still.is("give of a wrong FILE", still.give(0, 21), -1000);
        still.is("give of no PLACE", still.give(2, 0), -1);
        still.is("find of no ORDER", still.x.find(2), -1);
        still.is("find of no ORDER", still.x.find(-1), -1);
        still.is("plain of no ORDER", still.x.plain(2), false);
        still.is("flow of no ORDER", still.x.flow(2), -1);
        stands(still, true);
        still.x.weave();
        still.x.tell();
        still.x.file(0);
        still.x.effective(0, 0);
        still.x.markOf(1, 0);
        still.x.argument(0, 5);
        still.x.input(5);
        still.is("begin of no METHOD", still.begin(30, true), Due.NO_SUCH);
        still.is("go at the end", still.go(1), Due.ILLEGAL_STATE);
        stands(still, true);
        // flow() of another ORDER ends ERRORS, WAY and STATES of the one ahead, no more.
        Due flow = woven();
        flow.is("flow", flow.x.flow(1), 0);
        flow.is("error", flow.x.error(0, 0), -1);
        flow.is("step", flow.x.step(0), -1);
        flow.is("state of the other ORDER", flow.x.state(20, 1, 8), 0);
        flow.is("run", flow.x.run(0), 2);
        flow.is("wired", flow.x.wired(0), 1);
        flow.x.code(20, true);
        flow.is("code", flow.out(), "push 1 @ t . b ; check t . a 0 ; ret ;");
    }
}
