/** Term 1, FAULTS: each sentence, at the bound and on both sides of it. In a text a ^ stands ahead of the FAULT's place. */
public final class TermFaultsTest {
    private static final String WHOLE = "order o : a < b , b ; kind k ( n : int = - 1 , s : text = 'x' ) on class field heirs many ;"
            + " kind l = @ k ( n = 2 ) @ o . a ; maker m : l adds @ k @ k ( s = 'y' ) ; class A @ l @ no k { field f @ o . b = - 5 ; field g ;"
            + " method p ( u @ o . a , v ) @ no o { L : push - 1 @ o . b ; store w ; load w ; read @ o . a ; add ; dup ; sub ; set A . f ;"
            + " get A . g ; zero L ; read ; M : is o . a M ; as o . b ; dup ; call A . p ; dup ; mul ; pop ; jump L ; read ; ret ; } }"
            + " class B : A { method q ( ) { read ; ret ; } }";

    public static void main(String[] args) {
        cutFirst();
        fromTheFront();
        endOfTheText();
        strangeLexemes();
        oneRowOfNames();
        rowsOfNames();
        marksTwice();
        noOrders();
        namesAhead();
        somethingElse();
        localsAhead();
        oneMore();
        whereMarksStand();
        membersNotTold();
        valuesOfTheOtherSort();
        ahead();
        namesInActs();
        depthsBehindNames();
        depthsTaken();
        depthsAbove8();
        whatActsTake();
        leadsTo();
        noNextOne();
        lowestAct();
        placesOfDepths();
        Due.close();
    }

    private static void fault(String about, int kind, String text) {
        Due.fault(about, kind, text);
    }

    private static Due right(String about, String text) {
        return Due.right(about, text, text.split("class [A-Z]", -1).length - 1);
    }

    private static String times(int n, String text) {
        return Due.times(n, text);
    }

    private static String acts(String acts) {
        return "class Z{method m(){" + acts + "}}";
    }

    private static void cutFirst() {
        String about = "First all is cut: 1 .. or of a NAME, NUMBER, TEXT that is too long or has no end: its first one";
        String[] wrong = {"#", "abcdefghi", "1234567890", "'123456789'", "'x", "'x\n'", "\u0000", "\u00ff", "\t"};
        String[] fronts = {"", "}", "class class", "order o:a,b;", "kind k;kind k;", "class A:B{}", "class A{method m(){ret;}}", "class A{}"};
        for (String front : fronts) {
            for (String sign : wrong) {
                fault(about, 1, front + " ^" + sign);
                fault(about, 1, front + " ^" + sign + " # abcdefghi");
            }
        }
        // What stands in a TEXT is no sign of its own.
        right(about, "kind k(s:text='#abcdefg',t:text='12345678');class A{}");
    }

    private static void fromTheFront() {
        String about = "Then it is read from the front; the first that is met";
        fault(about, 3, "kind k;kind ^k;class A:B{} class");
        fault(about, 5, "class A:^B{}class A{} class");
        fault(about, 2, "class ^class A:B{}class A{}");
        fault(about, 6, "kind k(a:int,b:int,c:int,d:int,^e:int);class A:B{}");
        fault(about, 7, "kind k(a:int=^'x');class A:B{}class A{}");
        fault(about, 4, "order ^o:a,b;order o:a;class A:B{}");
    }

    private static String[] lexemes() {
        return WHOLE.split(" ");
    }

    /** The LEXEMES from .. to of the whole program, each with a blank behind it. */
    private static String part(int from, int to) {
        StringBuilder text = new StringBuilder();
        for (int k = from; k < to; k++) {
            text.append(lexemes()[k]).append(" ");
        }
        return text.toString();
    }

    private static void endOfTheText() {
        String about = "2 .. (at the end the text's length)";
        right(about, WHOLE);
        for (int k = 0; k < lexemes().length; k++) {
            String text = part(0, k);
            // The one CLASS ends where the other one begins.
            if (text.endsWith("} } ")) {
                right(about, text);
            } else {
                fault(about, 2, text.trim() + "^");
                fault(about, 2, text + "\n  ^");
            }
        }
    }

    /** Into the whole program comes, ahead of each LEXEME, one more: adds, a NUMBER, a TEXT. */
    private static void strangeLexemes() {
        String about = "2 a LEXEME that can't stand there";
        for (int k = 1; k < lexemes().length; k++) {
            String before = lexemes()[k - 1];
            String after = lexemes()[k];
            String back = part(k, lexemes().length);
            boolean isDue = before.equals("=") && !after.equals("@") || before.equals("push");
            boolean textIsDue = isDue && after.startsWith("'");
            fault(about, 2, part(0, k) + (after.equals("adds") ? "adds ^" : "^adds ") + back);
            if (textIsDue) {
                fault(about, 7, part(0, k) + "^7 " + back);
                fault(about, 2, part(0, k) + "'' ^" + back);
            } else {
                fault(about, 2, part(0, k) + (isDue || before.equals("-") ? "7 ^" : "^7 ") + back);
                fault(about, isDue ? 7 : 2, part(0, k) + "^'' " + back);
            }
        }
    }

    private static void oneRowOfNames() {
        String about = "3 a NAME that is there already: of ORDERS, KINDS, MAKERS, CLASSES (one row of names)";
        String[] parts = {"order n:a;", "kind n;", "maker n:k adds @k;", "class n{}"};
        String[] others = {"order o:a;", "kind k;", "maker m:k adds @k;", "class c{}"};
        for (int one = 0; one < 4; one++) {
            for (int other = one; other < 4; other++) {
                StringBuilder text = new StringBuilder();
                for (int k = 0; k < 4; k++) {
                    text.append(others[k]);
                    text.append(k == one ? parts[k] : "");
                    text.append(k == other ? parts[k].replace("n", "^n").replace("ki^nd", "kind") : "");
                }
                fault(about, 3, text.toString());
            }
        }
        Due.right(about, "order o:o<k,k<m,m<c;kind k(o:int=1,k:int=1,m:int=1,c:int=1);maker m:k adds @k;"
                + "class c{field o;field k;field m;field c;method o(o,k,m,c){o:read;k:ret;}method c(){read;ret;}}", 1);
    }

    private static void rowsOfNames() {
        String about = "3 .. of MEMBERS of a KIND, FIELDS of a CLASS, METHODS of a CLASS, PARAMETERS or LABELS of a METHOD, MEMBERS in a MARK";
        fault(about, 3, "kind k(a:int,b:int,^a:int);class A{}");
        right(about, "kind k(a:int);kind l(a:int);class A{}");
        fault(about, 3, "class A{field f;field g;field ^f;}");
        right(about, "class A{field f;}class B:A{field f;}");
        fault(about, 3, "class A{method f(){read;ret;}method g(){read;ret;}method ^f(){read;ret;}}");
        right(about, "class A{method f(){read;ret;}}class B:A{method f(p){read;ret;}}");
        right(about, "class A{method f(){read;ret;}field f;}");
        fault(about, 3, "class A{method m(p,q,^p){read;ret;}}");
        right(about, "class A{method m(p){read;ret;}method n(p){read;ret;}}");
        fault(about, 3, acts("L:read;M:pop;^L:read;ret;"));
        right(about, "class A{method m(){L:read;ret;}method n(){L:read;ret;}}");
        right(about, "class A{method m(L){L:read;store M;M:read;ret;}}");
        fault(about, 3, "kind k(a:int,b:int);class A@k(a=1,b=2,^a=1){}");
        fault(about, 3, "kind k(a:int,b:int=1);class A@k(a=1,^a=1){}");
        right(about, "kind k(a:int)many;class A@k(a=1)@k(a=1){}");
    }

    private static void marksTwice() {
        String about = "3 .. in MARKS an ORDER, or a KIND that is not many, a second time (with no, too)";
        String front = "order o:a<b;order p:a;kind k;kind l;kind w many;";
        String[] rows = {"class A#{}", "class A{field f#;}", "class A{method m()#{read;ret;}}", "class A{method m(p#){read;ret;}}"};
        for (int row = 0; row < 4; row++) {
            for (String marks : new String[] {"@k@^k", "@no k@^k", "@k@no ^k", "@no k@no ^k", "@k@l@^k", "@w@k@w@^k"}) {
                fault(about, 3, front + rows[row].replace("#", marks));
            }
            right(about, front + rows[row].replace("#", "@w@w@no w@k@no w@l@w"));
            for (String marks : new String[] {"@o.a@^o.b", "@o.a@^o.a", "@no o@^o.a", "@o.a@no ^o", "@no o@no ^o", "@o.a@p.a@^o.a"}) {
                if (row > 0) {
                    fault(about, 3, front + rows[row].replace("#", marks));
                }
            }
        }
        fault(about, 3, front + "kind x=@k@l@^k;class A{}");
        fault(about, 3, front + "kind x=@o.a@^o.b;class A{}");
        right(about, front + "kind x=@w@w@k@o.a@p.a;class A{}");
        fault(about, 3, front + "maker m:k adds @k@^k;class A{}");
        right(about, front + "maker m:k adds @w@w@k;class A{}");
        fault(about, 3, front + acts("push 1@o.a@^o.a;ret;"));
        fault(about, 3, front + acts("read@o.a@p.a@^o.b;ret;"));
        right(about, front + acts("read@p.a@o.a;ret;"));
        right(about, front + "class A@k{field f@k;}class B@k{}");
    }

    private static void noOrders() {
        String about = "4 an ORDER's NAME (met at its ;): two unlike ELEMENTS are each below the other, or two have no JOIN or no MEET";
        fault(about, 4, "order ^o:a<b,b<a;class A{}");
        right(about, "order o:a<a;class A{}");
        right(about, "order o:a<b,a<b,a<a,b<b;class A{}");
        fault(about, 4, "order ^o:a<b,b<c,c<d,d<b;class A{}");
        fault(about, 4, "order ^o:a,b;class A{}");
        fault(about, 4, "order ^o:z<a,z<b;class A{}");
        fault(about, 4, "order ^o:a<u,b<u;class A{}");
        right(about, "order o:z<a,z<b,a<u,b<u;class A{}");
        // Both below both of two: a and b have upper ones, but none that is BELOW all such.
        fault(about, 4, "order ^o:z<a,z<b,a<c,a<d,b<c,b<d,c<u,d<u;class A{}");
        right(about, "order o:z<a,z<b,a<j,b<j,j<c,j<d,c<u,d<u;class A{}");
        // Met at its ;, behind all that is wrong in it and ahead of what follows.
        fault(about, 2, "order o:a,b,^;class A{}");
        fault(about, 2, "order o:a,b^");
        fault(about, 2, "order o:a,b ^kind k;");
        fault(about, 6, "order o:" + times(12, "#,") + "^Z;class A{}");
        fault(about, 4, "order ^o:a,b;");
        fault(about, 4, "order ^o:a,b;}");
        fault(about, 4, "order p:a;order q:a<b;order ^o:a,b;order o:a;");
        fault(about, 3, "order o:a;order ^o:a,b;");
        // Twelve ELEMENTS, of which the last spoils it.
        fault(about, 4, "order ^o:A<B,B<C,C<D,D<E,E<F,F<G,G<H,H<I,I<J,J<K,L;class Z{}");
        right(about, "order o:A<B,B<C,C<D,D<E,E<F,F<G,G<H,H<I,I<J,J<K,L<K,A<L;class Z{}");
    }

    private static void namesAhead() {
        String about = "5 a NAME that is not there: all but those of CLASSES, FIELDS, METHODS, LABELS in ACTS must stand ahead";
        fault(about, 5, "class A@^k{}");
        fault(about, 5, "class A@no ^k{}");
        fault(about, 5, "class A{field f@^k;}");
        fault(about, 5, "class A{method m(p@^k){read;ret;}}");
        fault(about, 5, "class A{method m()@^k{read;ret;}}");
        fault(about, 5, "kind k;maker m:^l adds @k;class A{}");
        fault(about, 5, "kind k;maker m:k adds @^l;class A{}");
        fault(about, 5, "kind k=@^l;kind l;class A{}");
        fault(about, 5, "kind k=@^k;class A{}");
        right(about, "kind l;kind k=@l;class A{}");
        fault(about, 5, "class A:^B{}class B{}");
        fault(about, 5, "class A:^A{}");
        right(about, "class B{}class A:B{}");
        fault(about, 5, "order o:a;class A{field f@o.^b;}");
        fault(about, 5, "kind k(n:int);class A@k(^m=1){}");
        fault(about, 5, "kind k;class A@k(^m=1){}");
        fault(about, 5, "order o:a;" + acts("push 1@^p.a;ret;"));
        fault(about, 5, "order o:a;" + acts("push 1@o.^b;ret;"));
        fault(about, 5, "order o:a;" + acts("read@^p.a;ret;"));
        fault(about, 5, "order o:a;" + acts("read;is ^p.a L;L:ret;"));
        fault(about, 5, "order o:a;" + acts("read;is o.^b L;L:ret;"));
        fault(about, 5, "order o:a;" + acts("read;as ^p.a;ret;"));
        fault(about, 5, "order o:a;" + acts("read;as o.^b;ret;"));
        right(about, "class A{method m(){get B.f;call B.n;jump L;L:ret;}}class B{field f;method n(p){read;ret;}}");
    }

    private static void somethingElse() {
        String about = "5 a NAME that .. is something else";
        String front = "order o:a;kind k;maker m:k adds @k;class C{field f;method g(){read;ret;}}";
        for (String name : new String[] {"o", "k", "m", "a", "f", "g"}) {
            fault(about, 5, front + "class A:^" + name + "{}");
        }
        for (String name : new String[] {"m", "C", "a", "f", "A"}) {
            fault(about, 5, front + "class A@^" + name + "{}");
            fault(about, 5, front + "class A@no ^" + name + "{}");
        }
        fault(about, 5, "order o:a;kind k;maker m:^o adds @k;class A{}");
        fault(about, 5, "order o:a;kind k;maker m:k adds @k;maker n:^m adds @k;class A{}");
        fault(about, 5, "order o:a;kind k;maker m:k adds @^m;class A{}");
        for (String name : new String[] {"k", "m", "C", "a"}) {
            fault(about, 5, front + acts("read;is ^" + name + ".a L;L:ret;"));
            fault(about, 5, front + acts("read;as ^" + name + ".a;ret;"));
        }
        for (String name : new String[] {"o", "k", "m", "a", "f"}) {
            fault(about, 5, front + acts("get ^" + name + ".f;ret;"));
        }
    }

    private static void localsAhead() {
        String about = "5 .. a LOCAL of load must be a PARAMETER or a store's ahead";
        right(about, "class A{method m(p){load p;ret;}}");
        right(about, acts("read;store v;load v;ret;"));
        fault(about, 5, acts("load ^v;store v;read;ret;"));
        // Ahead in the text, whatever is done first.
        right(about, acts("jump M;L:read;store v;read;ret;M:load v;ret;"));
        fault(about, 5, acts("jump M;L:load ^v;ret;M:read;store v;jump L;"));
        fault(about, 5, acts("L:load ^L;ret;"));
        fault(about, 5, "class A{field f;method m(){load ^f;ret;}}");
    }

    private static void oneMore() {
        String about = "6 one more than there may be: its NAME; of MARKS the @, of ACTS the first LEXEME";
        fault(about, 6, times(4, "order #:a;") + "order ^Z 1 2 3");
        fault(about, 6, times(12, "kind #;") + "kind ^Z 1 2 3");
        fault(about, 6, "kind k;" + times(6, "maker #:k adds @k;") + "maker ^Z 1 2 3");
        fault(about, 6, times(12, "class #{}") + "class ^Z 1 2 3");
        fault(about, 6, "order o:" + times(12, "#,") + "^Z 1 2 3");
        fault(about, 6, "order o:A<" + times(12, "#,") + "A<^Z 1 2 3");
        fault(about, 6, "kind k(" + times(4, "#:int,") + "^Z 1 2 3");
        fault(about, 6, "class A{" + times(8, "field #;") + "field ^Z 1 2 3");
        fault(about, 6, "class A{" + times(8, "method #(){read;ret;}") + "method ^Z 1 2 3");
        fault(about, 6, "class A{method m(" + times(4, "#,") + "^Z 1 2 3");
        fault(about, 6, acts(times(8, "read;store #;") + "read;store ^Z 1 2 3"));
        fault(about, 6, "kind k many;class A" + times(20, "@k") + "^@ 1 2 3");
        fault(about, 6, acts(times(20, "read;pop;") + "^read 1 2 3"));
        fault(about, 6, acts(times(20, "read;pop;") + "^Z 1 2 3"));
        fault(about, 6, acts(times(20, "read;pop;") + "^Z:read 1 2 3"));
    }

    private static void whereMarksStand() {
        String about = "7 a MARK's NAME: it can't stand there (ORDERS stand at field, method, param; behind adds only KINDS that stand at"
                + " class, behind push and read only ORDERS, behind = all)";
        String front = "order o:a<b;kind c on class;kind f on field;kind m on method;kind p on param;";
        String[] rows = {"class A#{}", "class A{field g#;}", "class A{method n()#{read;ret;}}", "class A{method n(q#){read;ret;}}"};
        String[] marks = {"@^c", "@^f", "@^m", "@^p", "@^o.a"};
        for (int row = 0; row < 4; row++) {
            for (int mark = 0; mark < 5; mark++) {
                boolean stands = mark == row || mark == 4 && row > 0;
                String plain = front + rows[row].replace("#", marks[mark]);
                String no = front + rows[row].replace("#", marks[mark].replace("@^", "@no ^").replace(".a", ""));
                if (stands) {
                    right(about, plain.replace("^", ""));
                    right(about, no.replace("^", ""));
                } else {
                    fault(about, 7, plain);
                    fault(about, 7, no);
                }
            }
        }
        right(about, front + "maker x:c adds @c;class A{}");
        right(about, front + "maker x:f adds @c;class A{}");
        for (int mark = 1; mark < 5; mark++) {
            fault(about, 7, front + "maker x:c adds @c" + marks[mark] + ";class A{}");
        }
        right(about, front + "kind x on class param;maker y:c adds @x;class A{}");
        right(about, front + "kind x=@c@f@m@p@o.a;class A{}");
        right(about, front + "kind x on field=@c@f@m@p@o.a;class A{field g@x;}");
        for (int mark = 0; mark < 4; mark++) {
            fault(about, 7, front + acts("push 1" + marks[mark] + ";ret;"));
            fault(about, 7, front + acts("read" + marks[mark] + ";ret;"));
        }
        right(about, front + acts("push 1@o.b;read@o.a;add;ret;"));
        // It is met at the NAME, ahead of what is in its ( ).
        fault(about, 7, front + "kind x(n:int)on field;class A@^x(y=1){}");
        fault(about, 7, front + "class A@^o 1 2 3");
    }

    private static void membersNotTold() {
        String about = "7 .. or a MEMBER without default is not told (met behind its ) or NAME, ahead of what is wrong there; of no never)";
        String front = "kind k(a:int,b:text='x',c:text);";
        right(about, front + "class A@k(a=1,c=''){}");
        right(about, front + "class A@k(c='',b='',a=0){}");
        fault(about, 7, front + "class A@^k{}");
        fault(about, 7, front + "class A@^k(a=1){}");
        fault(about, 7, front + "class A@^k(c='',b=''){}");
        right(about, front + "class A@no k{}");
        right(about, "kind k(b:text='x');class A@k{}");
        fault(about, 7, front + "kind l=@^k;class A{}");
        fault(about, 7, front + "kind l;maker m:l adds @^k;class A{}");
        fault(about, 7, front + "class A{field f@^k;}");
        // Ahead of what is wrong behind it, but behind what is wrong in it.
        fault(about, 7, front + "class A@^k");
        fault(about, 7, front + "class A@^k 1 2 3");
        fault(about, 7, front + "class A@^k(a=1) 1 2 3");
        fault(about, 7, front + "class A@^k(a=1)");
        fault(about, 2, front + "class A@k(a=1^");
        fault(about, 2, front + "class A@k(a=1 ^2");
        fault(about, 5, front + "class A@k(^x=1){}");
        fault(about, 3, front + "class A@k(a=1,^a=2){}");
        fault(about, 7, front + "class A@k(a=^'x'){}");
    }

    private static void valuesOfTheOtherSort() {
        String about = "7 .. a VALUE of the other sort: its first LEXEME";
        fault(about, 7, "kind k(a:int=^'x');class A{}");
        fault(about, 7, "kind k(a:text=^1);class A{}");
        fault(about, 7, "kind k(a:text=^-1);class A{}");
        fault(about, 7, "kind k(a:int);class A@k(a=^''){}");
        fault(about, 7, "kind k(a:text);class A@k(a=^0){}");
        fault(about, 7, "kind k(a:text);class A@k(a=^- 0){}");
        fault(about, 7, "class A{field f=^'0';}");
        fault(about, 7, acts("push ^'0';ret;"));
    }

    private static void ahead() {
        String about = "At one LEXEME 2 is ahead of 5, this of 3, this of 6, this of 7";
        // 2 ahead of the others: a WORD where a NAME is due.
        fault(about, 2, "class A@^class{}");
        fault(about, 2, "kind k(a:int,b:int,c:int,d:int,^int:int);class A{}");
        fault(about, 2, times(4, "order #:a;") + "order ^order:a;");
        fault(about, 2, times(12, "kind #;") + "kind ^;");
        fault(about, 2, times(12, "class #{}") + "class ^{}");
        fault(about, 2, "class A{" + times(8, "field #;") + "field ^;}");
        fault(about, 2, "class A{" + times(8, "method #(){read;ret;}") + "method ^(){read;ret;}}");
        fault(about, 2, "class A{method m(a,b,c,d,^){read;ret;}}");
        fault(about, 2, "order o:" + times(12, "#,") + "^;");
        fault(about, 2, acts(times(8, "read;store #;") + "read;store ^;"));
        fault(about, 2, acts(times(20, "read;pop;") + "^field"));
        fault(about, 2, acts(times(20, "read;pop;") + "^;"));
        fault(about, 2, "class A{field f=^x;}");
        // 5 ahead of 3 and 6 and 7.
        fault(about, 5, "kind k(a:int);class A@k(a=1,^b=1,b=1){}");
        fault(about, 5, "kind k(a:int,b:int,c:int,d:int);class A@k(a=1,b=1,c=1,d=1,^e=1){}");
        fault(about, 5, acts(times(8, "read;store #;") + "load ^Z;ret;"));
        fault(about, 5, "kind k on field;class A@^l{}");
        // 3 ahead of 6 and 7.
        fault(about, 3, times(4, "order #:a;") + "order ^D:a;");
        fault(about, 3, times(12, "kind #;") + "kind ^A;");
        fault(about, 3, "kind k;" + times(6, "maker #:k adds @k;") + "maker ^k:k adds @k;");
        fault(about, 3, "kind k;" + times(12, "class #{}") + "class ^k{}");
        fault(about, 3, "kind k(a:int,b:int,c:int,d:int,^d:int);class A{}");
        fault(about, 3, "class A{" + times(8, "field #;") + "field ^A;}");
        fault(about, 3, "class A{" + times(8, "method #(){read;ret;}") + "method ^H(){read;ret;}}");
        fault(about, 3, "class A{method m(a,b,c,d,^a){read;ret;}}");
        fault(about, 3, acts("L:read;pop;" + times(19, "read;pop;") + "^L:read;"));
        fault(about, 3, "kind k(a:int);class A@k(a=1)@^k{}");
        fault(about, 3, "kind k(a:int);class A@no k@^k{}");
        // Of MARKS the @ is 6, ahead of what its NAME is.
        fault(about, 6, "kind k many;kind l on field;class A" + times(20, "@k") + "^@l{}");
        fault(about, 6, "kind k many;class A" + times(20, "@k") + "^@x{}");
        fault(about, 6, "kind k many;kind l;class A@l" + times(19, "@k") + "^@l{}");
    }

    private static void namesInActs() {
        String about = "Behind all that 5: the first NAME in ACTS that is not there";
        fault(about, 5, "class A{field f;method m(){get ^B.f;get C.f;ret;}method n(){jump L;}}");
        fault(about, 5, "class A{field f;method m(){get A.f;get A.^g;jump L;}}");
        fault(about, 5, "class A{field f;method m(){get A.f;jump ^L;}}");
        fault(about, 5, "class A{method m(){read;zero ^L;read;ret;}}");
        fault(about, 5, "order o:a;class A{method m(){read;is o.a ^L;ret;}}");
        fault(about, 5, "class A{method m(){call A.^n;ret;}}");
        fault(about, 5, "class A{method m(){call ^B.m;ret;}}");
        fault(about, 5, "class A{method m(){read;set A.^f;read;ret;}}");
        fault(about, 5, "class A{method m(){read;set ^B.f;read;ret;}}");
        // The first one in the text, METHODS and CLASSES one after the other; what stands in the text behind goes first.
        fault(about, 5, "class A{method m(){read;ret;}method n(){jump ^L;}}class B{method m(){jump L;}}");
        fault(about, 3, "class A{method m(){jump L;}}class ^A{}");
        fault(about, 2, "class A{method m(){jump L;}}^}");
        fault(about, 7, "class A{method m(){jump L;}field f=^'x';}");
        fault(about, 2, "class A{method m(){jump L;}^");
        // Also in ACTS that are not come to.
        fault(about, 5, "class A{method m(){read;ret;jump ^L;}}");
    }

    private static void depthsBehindNames() {
        String about = "Then 8, METHOD by METHOD";
        fault(about, 5, "class A{method m(){ret;}}class B{method m(){jump ^L;}}");
        fault(about, 8, "class A{method m(){read;ret;}method n(){^pop;read;ret;}method o(){ret;}}class B{method m(){ret;}}");
        fault(about, 8, "class A{method m(){read;ret;}}class B{method m(){^ret;}}");
        fault(about, 2, "class A{method m(){ret;}}^x");
    }

    private static void depthsTaken() {
        String about = "it is wrong, if it takes more than its DEPTH";
        String front = "order o:a;class Y{field f;method n(p,q,r,s){read;ret;}method k(){read;ret;}method l(p){read;ret;}}";
        for (String act : new String[] {"store v", "set Y.f", "pop", "zero L"}) {
            fault(about, 8, front + acts("^" + act + ";L:read;ret;"));
            right(about, front + acts("read;" + act + ";L:read;ret;"));
        }
        for (String act : new String[] {"dup", "is o.a L", "as o.a", "call Y.l", "ret"}) {
            fault(about, 8, front + acts("^" + act + ";L:ret;"));
            right(about, front + acts("read;" + act + ";L:ret;"));
        }
        for (String act : new String[] {"add", "sub", "mul"}) {
            fault(about, 8, front + acts("^" + act + ";ret;"));
            fault(about, 8, front + acts("read;^" + act + ";ret;"));
            right(about, front + acts("read;read;" + act + ";ret;"));
        }
        for (int depth = 0; depth < 4; depth++) {
            fault(about, 8, front + acts(times(depth, "read;") + "^call Y.n;ret;"));
        }
        right(about, front + acts(times(4, "read;") + "call Y.n;ret;"));
        for (String act : new String[] {"push 1", "read", "get Y.f", "call Y.k"}) {
            right(about, front + acts(act + ";ret;"));
        }
    }

    private static void depthsAbove8() {
        String about = "or the DEPTH behind would be above 8";
        String front = "order o:a;class Y{field f;method n(p,q,r,s){read;ret;}method k(){read;ret;}method l(p){read;ret;}}";
        String[] more = {"push 1", "read", "load v", "get Y.f", "dup", "call Y.k"};
        for (String act : more) {
            right(about, front + acts("read;store v;" + times(7, "read;") + act + ";ret;"));
            fault(about, 8, front + acts("read;store v;" + times(8, "read;") + "^" + act + ";ret;"));
        }
        String[] even = {"as o.a", "is o.a L", "call Y.l", "call Y.n", "add", "pop", "store v", "set Y.f", "zero L"};
        for (String act : even) {
            right(about, front + acts(times(8, "read;") + act + ";L:ret;"));
        }
    }

    /** The DEPTH behind each ACT, as state() shows it: the last value that there is. */
    private static void whatActsTake() {
        String about = "push, read give 1; load, get 1; store, set, pop, zero take 1; add, sub, mul take 2, give 1; dup takes 1, gives 2;"
                + " is, as take 1, give 1; call takes its METHOD's PARAMETERS, gives 1; ret takes 1";
        String front = "order o:a;class Y{field f;method j(){read;ret;}method k(p){read;ret;}method l(p,q){read;ret;}method m(p,q,r){read;ret;}"
                + "method n(p,q,r,s){read;ret;}}";
        String[] does = {"push 1", "read", "load v", "get Y.f", "store v", "set Y.f", "pop", "zero L", "add", "sub", "mul", "dup",
            "is o.a L", "as o.a", "call Y.j", "call Y.k", "call Y.l", "call Y.m", "call Y.n", "jump L"};
        int[] change = {1, 1, 1, 1, -1, -1, -1, -1, -1, -1, -1, 1, 0, 0, 1, 0, -1, -2, -3, 0};
        for (int k = 0; k < does.length; k++) {
            Due d = right(about, front + acts("read;store v;" + times(5, "read;") + does[k] + ";L:push 1;ret;"));
            d.is("flow", d.x.flow(0), 0);
            int depth = 5 + change[k];
            d.is(does[k] + ": the last value", d.x.state(120, 8, 8 + depth - 1), 0);
            d.is(does[k] + ": none above", d.x.state(120, 8, 8 + depth), -1);
        }
        right("ret takes 1, and may leave more", acts("read;read;read;ret;"));
    }

    private static void leadsTo() {
        String about = "then of the ACTS to which it leads (the next one, unless it is ret or jump; then its LABEL's) the first that was come"
                + " to with another DEPTH";
        // The LABEL's was come to as the next one of an ACT ahead.
        fault(about, 8, acts("^L:read;jump L;"));
        fault(about, 8, acts("read;^L:read;zero M;read;jump L;M:ret;"));
        fault(about, 8, acts("read;zero M;read;ret;^M:read;jump M;"));
        // The next one was come to by a LABEL.
        fault(about, 8, acts("read;zero M;read;^M:read;ret;"));
        fault(about, 8, acts("read;zero M;read;read;^M:read;ret;"));
        // With the same DEPTH it may be come to often.
        right(about, acts("L:read;zero L;read;zero L;read;zero M;jump L;M:read;ret;"));
        // Both lead wrong: the next one is the first, whichever is lower.
        fault(about, 8, acts("L:read;zero N;read;read;zero L;^N:read;ret;"));
        fault(about, 8, acts("read;zero N;read;zero L;read;read;zero L;^N:read;ret;L:read;ret;"));
        // ret and jump lead to no next one: it may be come to with another DEPTH.
        right(about, acts("read;zero M;read;read;ret;M:read;ret;"));
        right(about, acts("read;zero M;read;jump N;M:read;N:ret;"));
        fault(about, 8, acts("read;zero M;read;read;jump N;M:read;^N:ret;"));
        // An ACT whose LABEL is the next one leads to it with one DEPTH.
        right(about, acts("read;zero L;L:read;ret;"));
    }

    private static void noNextOne() {
        String about = "it itself, if there is no next one";
        String front = "order o:a;class Y{field f;method n(p){read;ret;}}";
        String[] texts = {"^push 1;", "^read;", "read;store v;^load v;", "read;^store v;", "^get Y.f;", "read;^set Y.f;", "read;^call Y.n;",
            "read;read;^add;", "read;read;^sub;", "read;read;^mul;", "read;^dup;", "read;^pop;", "read;^as o.a;", "L:read;^zero L;",
            "read;^M:is o.a M;"};
        for (String text : texts) {
            fault(about, 8, front + acts(text));
        }
        // Also if its LABEL's was come to with another DEPTH.
        fault(about, 8, front + acts("L:read;read;^zero L;"));
        fault(about, 8, front + acts("read;L:read;^is o.a L;"));
        right(about, acts("L:jump L;"));
        right(about, acts("read;ret;"));
        // One that is not come to may be the last.
        right(about, acts("read;ret;read;"));
    }

    private static void lowestAct() {
        String about = "always the lowest ACT that was come to and not gone over is gone over";
        // ACT 2 is come to behind ACT 4 was, and goes first.
        fault(about, 8, acts("read;jump M;^L:ret;M:zero L;add;ret;"));
        fault(about, 8, acts("read;zero M;^add;ret;M:add;ret;"));
        // What is wrong behind an ACT that is wrong is not met.
        fault(about, 8, acts("^pop;pop;pop;ret;"));
        // Not come to, not gone over.
        right(about, acts("read;ret;pop;add;ret;"));
        right(about, acts("read;jump L;add;add;L:ret;"));
        // What was gone over is not gone over again, though it is come to again.
        fault(about, 8, acts("L:read;zero L;^pop;read;ret;"));
        fault(about, 8, acts("read;zero E;L:jump L;^E:pop;read;ret;"));
        fault(about, 8, acts("read;L:read;zero L;pop;^pop;read;ret;"));
        // All forty ACTS are gone over, the last one too.
        fault(about, 8, acts(times(19, "read;pop;") + "read;^add;"));
        fault(about, 8, acts(times(19, "read;pop;") + "jump L;^L:ret;"));
    }

    private static void placesOfDepths() {
        String about = "The first that is wrong so: its first LEXEME (its LABEL's, if it has one)";
        fault(about, 8, acts("^pop;read;ret;"));
        fault(about, 8, acts("^L : pop;read;ret;"));
        fault(about, 8, acts("read;zero M;read; ^M : read;ret;"));
        fault(about, 8, acts("read; ^L:read;"));
    }
}
