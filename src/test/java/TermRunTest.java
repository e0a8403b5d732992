/** Term 5, A RUN: each sentence that names a bound, at the bound and on both sides of it. */
public final class TermRunTest {
    private static final String TWO = "order s:x<y;order t:b<c,a<b;";

    public static void main(String[] args) {
        intsThatWrap();
        bottomAtFirst();
        freshLocals();
        fieldsAndStack();
        told();
        joined();
        nextInput();
        zeroGoes();
        isGoes();
        brokenAs();
        restOfTheStack();
        leftMarks();
        leftAndGoesOn();
        failed();
        checksAreNoActs();
        endsAsValue();
        endsAsDeep();
        deepBehindChecks();
        Due.close();
    }

    private static Due begun(String about, String program, int place, boolean woven) {
        Due d = Due.with(about, program);
        if (woven) {
            d.x.weave();
        }
        d.is("begin", d.begin(place, woven), Due.NOTHING);
        return d;
    }

    private static Due ran(String about, String program, int place, boolean woven) {
        Due d = begun(about, program, place, woven);
        d.go(10000);
        return d;
    }

    private static void intsThatWrap() {
        int[] values = {0, 1, -1, 2, -2, 46340, 46341, 65536, 1000000007, Integer.MAX_VALUE, Integer.MIN_VALUE, Integer.MIN_VALUE + 1};
        Due d = Due.with("Values are ints that wrap", "class A{method a(p,q){load p;load q;add;ret;}method s(p,q){load p;load q;sub;ret;}"
                + "method m(p,q){load p;load q;mul;ret;}}");
        for (int p : values) {
            d.x.argument(0, p);
            for (int k = 0; k < 4; k++) {
                int q = values[(k * 5 + 9) % values.length];
                d.x.argument(1, q);
                int[] due = {p + q, p - q, p * q};
                for (int method = 0; method < 3; method++) {
                    d.begin(20 + 10 * method, false);
                    d.go(9);
                    d.is(p + " and " + q, d.x.run(1), due[method]);
                }
            }
        }
        Due told = ran("999999999 times itself", "class A{method m(){push 999999999;dup;mul;ret;}}", 20, false);
        told.is("it wraps", told.x.run(1), 999999999 * 999999999);
    }

    private static void bottomAtFirst() {
        String about = "FIELDS at first, arguments and other LOCALS (0) BOTTOM";
        String program = TWO + "class A{field f=5;field g;method m(p@t.c){load p;ret;}method n(p,q,r,u){read;zero L;push 1;store v;L:load v;ret;}"
                + "method o(){get A.f;ret;}method q(){get A.g;ret;}}";
        int[] places = {20, 30, 40, 50};
        int[] values = {9, 0, 5, 0};
        for (int k = 0; k < places.length; k++) {
            Due d = Due.with(about, program);
            d.x.argument(0, 9);
            d.x.argument(3, 9);
            d.begin(places[k], false);
            d.go(99);
            d.is("value", d.x.run(1), values[k]);
            d.is("of s", d.x.truth(0), 0);
            d.is("of t: a, though the MARK is c", d.x.truth(1), 2);
        }
        // LOCALS of a METHOD that is called again are 0 again, FIELDS keep their values.
        Due again = ran("each call has its own LOCALS", TWO + "class A{field f;method m(p){load p;zero L;push 7@s.y;store v;L:load v;get A.f;add;ret;}"
                + "method n(){push 1;call A.m;set A.f;push 0;call A.m;ret;}}", 30, false);
        again.is("7 of the FIELD alone", again.x.run(1), 7);
        again.is("truth", again.x.truth(0), 1);
    }

    /** The same METHODS are called twice, and leave their LOCALS full: the second time these are 0 and BOTTOM again. */
    private static void freshLocals() {
        Due d = ran("other LOCALS (0) BOTTOM, in each call anew", TWO + "class A{method m(){jump S;T:push 9@s.y@t.c;dup;store a;dup;store b;store c;push 1;ret;"
                + "S:load a;load b;add;load c;add;zero T;load a;ret;}method n(){call A.m;pop;call A.m;pop;call A.m;ret;}}", 30, false);
        d.is("value", d.x.run(1), 1);
        // In the twelfth METHOD under way, too.
        String loads = "load a;load b;add;load c;add;load d;add;load e;add;load f;add;get A.s;add;set A.s;";
        Due deep = ran("in the twelfth METHOD under way", TWO + "class A{field s;method m(p){jump S;T:push 1;store a;push 1;store b;push 1;store c;push 1;store d;"
                + "push 1;store e;push 1;store f;load p;zero E;load p;push 1;sub;call A.m;ret;E:push 7;ret;S:" + loads + "jump T;}"
                + "method n(){push 10;call A.m;pop;push 10;call A.m;pop;get A.s;ret;}}", 30, false);
        deep.is("VALUE", deep.x.run(0), 2);
        deep.is("all were 0", deep.x.run(1), 0);
    }

    private static void fieldsAndStack() {
        Due d = ran("get and set take and give what they name, and no more", TWO + "class A{field f=3;field g=4;method m(){push 100;push 20;get A.f;get A.g;set A.f;add;add;"
                + "get A.g;add;get A.f;add;ret;}}", 20, false);
        d.is("100 + 20 + 3 + 4 + 4", d.x.run(1), 131);
    }

    private static void told() {
        String about = "push, read, as: the one told, else BOTTOM (of as: as it was)";
        String[] acts = {"push 1@s.y@t.c", "push 1@t.b", "push 1", "read@s.y", "read@t.c@s.x", "read", "push 1@s.y@t.c;as t.b", "push 1@s.y@t.c;as s.x"};
        int[] ofS = {1, 0, 0, 1, 0, 0, 1, 0};
        int[] ofT = {1, 0, 2, 2, 1, 2, 0, 1};
        for (int k = 0; k < acts.length; k++) {
            Due d = ran(about, TWO + "class A{method m(){" + acts[k] + ";ret;}}", 20, false);
            d.is(acts[k] + " of s", d.x.truth(0), ofS[k]);
            d.is(acts[k] + " of t", d.x.truth(1), ofT[k]);
        }
    }

    private static void joined() {
        String four = "order t:z<l,z<r,l<u,r<u;";
        String[] names = {"z", "l", "r", "u"};
        int[][] joins = {{0, 1, 2, 3}, {1, 1, 3, 3}, {2, 3, 2, 3}, {3, 3, 3, 3}};
        for (int one = 0; one < 4; one++) {
            for (int other = 0; other < 4; other++) {
                for (String act : new String[] {"add", "sub", "mul"}) {
                    Due d = ran("add, sub, mul: the JOIN", four + "class A{method m(){push 5@t." + names[one] + ";push 0@t." + names[other] + ";" + act
                            + ";ret;}}", 20, false);
                    d.is(act, d.x.truth(0), joins[one][other]);
                }
            }
        }
        // In all four ORDERS.
        Due all = ran("of every ORDER", "order a:x<y;order b:x<y;order c:x<y;order d:x<y;class A{method m(){push 1@a.y@c.y;push 1@d.y;add;ret;}}", 20, false);
        all.is("a b c d", all.x.truth(0) + " " + all.x.truth(1) + " " + all.x.truth(2) + " " + all.x.truth(3), "1 0 1 1");
        all.is("no fifth", all.x.truth(4), -1);
    }

    private static void nextInput() {
        Due d = Due.with("read takes the next INPUT, 0 if there is none", "class A{method m(){read;push 100;mul;read;push 10;mul;add;read;add;ret;}}");
        int[][] inputs = {{}, {1}, {1, 2}, {1, 2, 3}, {1, 2, 3, 4}, {}};
        int[] due = {0, 100, 120, 123, 123, 400};
        for (int k = 0; k < inputs.length; k++) {
            for (int v : inputs[k]) {
                d.x.input(v);
            }
            d.begin(20, false);
            d.go(99);
            d.is("with " + inputs[k].length, d.x.run(1), due[k]);
        }
        d.is("all were taken", d.x.input(-7), 1);
        d.begin(20, false);
        d.go(1);
        d.is("taken by its read, not by begin or the end", d.x.input(1), 1);
    }

    private static void zeroGoes() {
        Due d = Due.with("zero goes to its LABEL, if the value it takes is 0", "order t:a<b;class A{method m(p){load p;zero L;push 1;ret;L:push 2;ret;}"
                + "method n(){push 0@t.b;zero L;push 1;ret;L:push 2;ret;}}");
        int[] values = {0, 1, -1, Integer.MIN_VALUE, Integer.MAX_VALUE, 65536, 256};
        for (int v : values) {
            d.x.argument(0, v);
            d.begin(20, false);
            d.go(9);
            d.is("of " + v, d.x.run(1), v == 0 ? 2 : 1);
        }
        d.begin(30, false);
        d.go(9);
        d.is("whatever it truly is", d.x.run(1), 2);
    }

    private static void isGoes() {
        String four = "order t:z<l,z<r,l<u,r<u;";
        String[] names = {"z", "l", "r", "u"};
        String[] below = {"1111", "0101", "0011", "0001"};
        for (int value = 0; value < 4; value++) {
            for (int element = 0; element < 4; element++) {
                Due d = ran("is, if the value on top is BELOW the ELEMENT", four + "class A{method m(){push 5@t.u;push 7@t." + names[value] + ";is t."
                        + names[element] + " L;push 1;sub;ret;L:ret;}}", 20, false);
                d.is(names[value] + " is " + names[element], d.x.run(1), below[value].charAt(element) == '1' ? 7 : 6);
                d.is("it stays what it truly is", d.x.truth(0), value);
            }
        }
    }

    private static void brokenAs() {
        String four = "order t:z<l,z<r,l<u,r<u;";
        String[] names = {"z", "l", "r", "u"};
        String[] below = {"1111", "0101", "0011", "0001"};
        for (int value = 0; value < 4; value++) {
            for (int element = 0; element < 4; element++) {
                Due d = ran("as is BROKEN, if the value was not BELOW the ELEMENT", four + "class A{method m(){push 7@t." + names[value] + ";as t."
                        + names[element] + ";ret;}}", 20, false);
                d.is(names[value] + " as " + names[element], d.x.run(10), below[value].charAt(element) == '1' ? 0 : 1);
                d.is("it goes on as the ELEMENT", d.x.truth(0), element);
                d.is("with its value", d.x.run(1), 7);
            }
        }
    }

    private static void restOfTheStack() {
        Due d = ran("ret gives the value back; the rest of its stack is gone", "class A{method m(p){push 1;push 2;push 3;push 4;push 5;push 6;push 7;load p;ret;}"
                + "method n(){push 50;push 60;push 70;push 8;call A.m;add;add;add;ret;}}", 30, false);
        d.is("value", d.x.run(1), 188);
        Due full = ran("eight values in each", "class A{method m(p,q,r,s){load p;load q;load r;load s;load p;load q;load r;load s;ret;}"
                + "method n(){push 1;push 2;push 3;push 4;push 5;push 6;push 7;push 8;call A.m;mul;ret;}}", 30, false);
        full.is("value", full.x.run(1), 32);
    }

    private static void leftMarks() {
        String about = "A value that is WANTED to be BELOW and is not has LEFT its MARK (one for each ORDER)";
        String front = "order s:x<y;order t:a<b,b<c;";
        // set, ret and call; at the bound, above it, and aside.
        Due d = ran(about, front + "class A{field f@t.b@s.x;method k(p@t.a,q@s.x@t.b)@s.x{push 1;ret;}"
                + "method m()@t.b@s.x{push 1@t.b;set A.f;push 1@t.c;set A.f;push 1@t.c@s.y;set A.f;"
                + "push 1@t.b;push 1@s.y@t.c;call A.k;pop;push 1@t.c@s.y;ret;}}", 30, false);
        // 1 of the second set, 2 of the third, 3 of call, 2 of ret.
        d.is("so many", d.tallies(), "2 1 14 30 11 0 8 30 3 1 0 0");
        Due order = ran("the lowest ORDER at one ACT", front + "class A{method k(p@t.a,q@s.x){push 1;ret;}method m(){push 1@t.b;push 1@s.y;call A.k;ret;}}", 30, false);
        order.is("both", order.x.run(6), 2);
        order.is("of ORDER s, though its value is the second", order.x.run(9), 0);
        Due found = Due.with("THE MARK may be a FOUND one", front + "class A{field f;method m(){push 1;set A.f;read;zero L;push 1@t.b;set A.f;L:push 1;ret;}}");
        found.is("find", found.x.find(1), 2);
        found.begin(20, false);
        found.go(99);
        found.is("none left", found.x.run(6), 0);
    }

    private static void leftAndGoesOn() {
        Due d = ran("the run goes on with it", "order t:a<b;class A{field f@t.a;method m(p@t.a)@t.a{load p;set A.f;get A.f;ret;}"
                + "method n(){push 5@t.b;call A.m;ret;}}", 30, false);
        d.is("as what it truly is", d.x.truth(0), 1);
        d.is("value", d.x.run(1), 5);
        d.is("of call, set and ret", d.x.run(6), 3);
        d.is("the first one", d.x.run(7) + " " + d.x.run(8) + " " + d.x.run(9), "30 1 0");
    }

    private static void failed() {
        String about = "A CHECK whose value is not so ends the run as FAILED, ahead of the ACT";
        String program = "order s:x<y;order t:a<b;class A{field f@t.a;method k(p@t.a,q@t.a@s.x){push 1;ret;}"
                + "method m(p){load p;zero L;push 3@t.b;jump M;L:push 2;M:set A.f;get A.f;ret;}"
                + "method n(p){load p;zero L;push 1;push 1@s.y;jump M;L:push 1@t.b;push 2@s.y;M:call A.k;ret;}}";
        Due d = Due.with(about, program);
        d.is("weave", d.x.weave(), 3);
        d.x.argument(0, 1);
        d.is("begin", d.begin(30, true), Due.NOTHING);
        d.is("go", d.go(4), "4");
        d.is("not yet", d.x.run(0), 1);
        d.is("go", d.go(1), "0");
        d.is("FAILED", d.tallies(), "4 0 4 30 5 0 0 -1 -1 -1 0 1");
        d.is("no truth", d.x.truth(0), -1);
        d.is("ended", d.go(1), Due.ILLEGAL_STATE);
        d.x.argument(0, 0);
        d.begin(30, true);
        d.is("go", d.go(99), "6");
        d.is("the CHECK is done, and passed", d.tallies(), "2 2 6 30 7 0 0 -1 -1 -1 0 1");
        // Of several the first that is not so ends it: those behind it are not done.
        d.begin(40, true);
        d.is("go", d.go(99), "4");
        d.is("FAILED at the first of s", d.tallies(), "4 0 4 40 7 0 0 -1 -1 -1 0 1");
        d.x.argument(0, 1);
        d.begin(40, true);
        d.is("go", d.go(99), "5");
        d.is("FAILED as well", d.x.run(0), 4);
        d.is("without CHECKS", d.begin(40, false), Due.NOTHING);
        d.is("go", d.go(99), "9");
        d.is("VALUE, with what LEFT", d.tallies(), "2 1 9 40 8 0 1 40 7 0 0 0");
    }

    private static void checksAreNoActs() {
        Due d = begun("CHECKS are no ACTS", "order s:x<y;order t:a<b;class A{method k(p@t.a@s.x)@t.b{load p;ret;}"
                + "method m(p)@t.a{load p;zero L;push 3@t.b@s.y;jump M;L:push 2;M:call A.k;pop;push 1;ret;}}", 30, true);
        d.is("go by one ACT each", d.go(1) + d.go(1) + d.go(1) + d.go(1), "1111");
        d.is("in k", d.tallies(), "1 0 4 20 0 2 0 -1 -1 -1 0 2");
        d.is("go", d.go(99), "5");
        d.is("nine ACTS, two CHECKS", d.tallies(), "2 1 9 30 8 0 0 -1 -1 -1 0 2");
    }

    private static void endsAsValue() {
        Due d = begun("It ends as VALUE behind the first METHOD's ret", "class A{method k(){push 5;ret;}method m(){call A.k;pop;push 6;ret;push 7;ret;}}", 30, false);
        d.is("go", d.go(3), "3");
        d.is("k's ret is not the end", d.tallies(), "1 0 3 30 1 1 0 -1 -1 -1 0 0");
        d.is("go", d.go(2), "2");
        d.is("ahead of ret", d.tallies(), "1 0 5 30 3 1 0 -1 -1 -1 0 0");
        d.is("go", d.go(2), "1");
        d.is("VALUE", d.tallies(), "2 6 6 30 3 0 0 -1 -1 -1 0 0");
        Due lone = begun("a METHOD that others call is the first too", "class A{method k(){push 5;ret;}method m(){call A.k;ret;}}", 20, false);
        lone.is("go", lone.go(9), "2");
        lone.is("VALUE", lone.x.run(1), 5);
    }

    private static void endsAsDeep() {
        String about = "as DEEP when a 13th METHOD would be under way, ahead of the call (nothing LEFT by it is counted, nor it itself as an ACT)";
        String program = "order t:a<b;class A{method m(p){load p;zero E;load p;push 1;sub;call A.m;ret;E:push 7;ret;}"
                + "method n(p@t.a){push 1@t.b;call A.n;ret;}}";
        Due d = Due.with(about, program);
        for (int under = 1; under <= 14; under++) {
            d.x.argument(0, under - 1);
            d.begin(20, false);
            d.go(5 * (Math.min(under, 12) - 1) + (Math.min(under, 12) - 1));
            d.is("METHODS under way", d.x.run(5), Math.min(under, 12));
            d.go(10000);
            if (under <= 12) {
                d.is(under + " METHODS", d.tallies(), "2 7 " + (6 * (under - 1) + 4 + under - 1) + " 20 " + (under == 1 ? 8 : 6) + " 0 0 -1 -1 -1 0 0");
            } else {
                d.is(under + " METHODS", d.tallies(), "3 0 71 20 5 0 0 -1 -1 -1 0 0");
                d.is("no truth", d.x.truth(0), -1);
                d.is("ended", d.go(1), Due.ILLEGAL_STATE);
            }
        }
        d.begin(30, false);
        d.is("go", d.go(10000), "23");
        d.is("eleven calls brought what LEFT, the twelfth did not", d.tallies(), "3 0 23 30 1 0 11 30 1 0 0 0");
    }

    private static void deepBehindChecks() {
        Due d = Due.with("(behind its CHECKS)", "order t:a<b;class A{method m(p@t.a){read;zero L;push 1@t.b;jump M;L:push 1;M:call A.m;ret;}}");
        d.is("weave", d.x.weave(), 1);
        d.begin(20, true);
        d.is("go", d.go(10000), "47");
        d.is("DEEP, the CHECK of the last call done", d.tallies(), "3 0 47 20 5 0 0 -1 -1 -1 0 12");
        // The CHECK of the call that would be too deep fails: FAILED, not DEEP.
        for (int k = 0; k < 11; k++) {
            d.x.input(0);
        }
        d.x.input(1);
        d.begin(20, true);
        d.is("go", d.go(10000), "48");
        d.is("FAILED", d.tallies(), "4 0 48 20 5 0 0 -1 -1 -1 0 12");
    }
}
