/** Promises 33 and 34: wire, wired. */
public final class WireTest {
    private static final String KINDS = "kind part(label:text='')heirs;kind want(of:text='',label:text='',late:int=0);";

    public static void main(String[] args) {
        made();
        wrong();
        labels();
        late();
        parents();
        oddKinds();
        changes();
        Due.close();
    }

    /** What wire() answers, then wired(0), wired(1), and the CLASSES made. */
    private static void wires(String program, String want) {
        Due d = Due.with(program, program);
        d.is("wire", wire(d), want);
    }

    private static String wire(Due d) {
        StringBuilder all = new StringBuilder();
        all.append(d.x.wire()).append(" ").append(d.x.wired(0)).append(" ").append(d.x.wired(1)).append(":");
        for (int what = 2; d.x.wired(what) >= 0; what++) {
            all.append(" ").append(d.x.wired(what));
        }
        return all.toString();
    }

    private static void made() {
        wires("class A{}", "0 -1 -1:");
        wires(KINDS + "class A@part{}class B{}class C@part{}", "0 -1 -1: 0 2");
        wires(KINDS + "class A@part{field f@want(of='C');field g@want(of='B');}class B@part{}class C@part{field f@want(of='B');}",
                "0 -1 -1: 1 2 0");
        wires(KINDS + "class A{field f@want(of='Z');}class B@part{}", "0 -1 -1: 1");
        wires(KINDS + "class A@part{field f;field g=1;}", "0 -1 -1: 0");
    }

    private static void wrong() {
        wires(KINDS + "class B@part{}class A@part{field e;field f@want(of='Z');}", "1 102 1: 0");
        wires(KINDS + "class A@part{field f@want;}", "1 1 0:");
        wires(KINDS + "class A@part{field f@want(of='B');}class B{}", "1 1 0:");
        wires(KINDS + "class A{}class B:A@part{}class C:A@part{}class D@part{field f@want(of='A');}", "2 301 3: 1 2");
        wires(KINDS + "class A@part{field f@want(of='A');}", "3 1 0:");
        wires(KINDS + "class A@part{field f@want(of='B');}class B@part{field g;field h@want(of='C');}class C@part{field f@want(of='A');}",
                "3 201 2:");
        // What was made ahead of the fault is told.
        wires(KINDS + "class A@part{field f@want(of='B');field g@want(of='C');}class B@part{}class C@part{field f@want(of='D');}",
                "1 201 2: 1");
        // LACK of one want is met behind the making of the one ahead of it.
        wires(KINDS + "class A@part{field f@want(of='B');field g@want(of='Z');}class B@part{field f@want(of='A');}", "3 101 1:");
    }

    private static void labels() {
        String three = "class A{}class B:A@part(label='b'){}class C:A@part(label='c'){}class D:A@part{}";
        wires(KINDS + three + "class E@part{field f@want(of='A',label='c');}", "0 -1 -1: 1 2 3 4");
        wires(KINDS + three + "class E@part{field f@want(of='A',label='d');}", "1 401 4: 1 2 3");
        wires(KINDS + three + "class E@part{field f@want(of='A',label='');}", "2 401 4: 1 2 3");
        wires(KINDS + three + "class E@part{field f@want(of='B',label='c');}", "1 401 4: 1 2 3");
        // The first MARK counts.
        wires("kind part(label:text)many;kind want(of:text,label:text)many;class A@part(label='x')@part(label='y'){}"
                + "class B@part(label=''){field f@want(of='A',label='x')@want(of='Z',label='');}", "0 -1 -1: 0 1");
        wires("kind part(label:text)many;kind want(of:text,label:text)many;class A@part(label='x')@part(label='y'){}"
                + "class B@part(label=''){field f@want(of='A',label='y');}", "1 101 1: 0");
    }

    private static void late() {
        wires(KINDS + "class A@part{field f@want(of='B',late=1);}class B@part{field f@want(of='A');}", "0 -1 -1: 0 1");
        wires(KINDS + "class A@part{field f@want(of='A',late=-1);}", "0 -1 -1: 0");
        wires(KINDS + "class A@part{field f@want(of='B',late=0);}class B@part{field f@want(of='A');}", "3 101 1:");
        wires(KINDS + "class A@part{field f@want(of='Z',late=1);}", "1 1 0:");
        wires(KINDS + "class A{}class B:A@part{}class C:A@part{}class D@part{field f@want(of='A',late=1);}", "2 301 3: 1 2");
    }

    private static void parents() {
        // The highest PARENT's FIELDS first; the CLASS that wanted is the PART, the FIELD the PARENT's.
        wires(KINDS + "class A{field f@want(of='X');}class B:A{field g@want(of='Y');}class C:B@part{field h@want(of='Z');}"
                + "class Z@part{}class Y@part{}class X@part{}", "0 -1 -1: 5 4 3 2");
        wires(KINDS + "class A{field f@want(of='Q');}class B:A@part{field f@want(of='R');}", "1 1 1:");
        // An heir of a PART is one too, if the KIND is heirs.
        wires(KINDS + "class A@part{}class B:A{}class C@part{field f@want(of='B');}", "0 -1 -1: 0 1 2");
        wires(KINDS + "class A@part{}class B:A{}class C@part{field f@want(of='A');}", "2 201 2: 0 1");
        wires(KINDS + "class A@part{}class B:A@no part{}class C@part{field f@want(of='A');}", "0 -1 -1: 0 2");
    }

    private static void oddKinds() {
        wires("kind part;class A@part{}", "0 -1 -1: 0");
        wires("kind want;class A{field f@want;}", "0 -1 -1:");
        wires("kind part;kind want;class A@part{field f@want;}", "1 1 0:");
        wires("kind part;kind want(of:int=1);class A@part{field f@want;}", "1 1 0:");
        // Labels that are numbers are '', late that is a text is none.
        wires("kind part(label:int=1);kind want(of:text,label:int=2);class A@part{}class B@part{field f@want(of='A');}", "0 -1 -1: 0 1");
        wires("kind part;kind want(of:text,late:text='1');class A@part{field f@want(of='A');}", "3 1 0:");
        // GIVEN by another KIND.
        wires("kind part(label:text='');kind want(of:text);kind p=@part(label='l');kind w=@want(of='A');class A@p{}class B@p{field f@w;}",
                "0 -1 -1: 0 1");
        // A MAKER, an ORDER of these NAMES are something else.
        wires("order part:a;order want:a;class A{field f@want.a;}", "0 -1 -1:");
    }

    private static void changes() {
        Due d = Due.with("what ends it", "order t:a;" + KINDS + "class A@part{field f@want(of='Z');}class Z{}");
        d.is("none yet", d.x.wired(0), -1);
        d.is("wire", wire(d), "1 1 0:");
        d.is("no what", d.x.wired(-1), -1);
        d.is("no what", d.x.wired(Integer.MIN_VALUE), -1);
        d.is("no what", d.x.wired(Integer.MAX_VALUE), -1);
        d.feed(new byte[] {1, 4, 'p', 'a', 'r', 't', 0});
        d.is("give", d.x.give(100), 1);
        d.is("gone", d.x.wired(0), -1);
        d.is("wire", wire(d), "0 -1 -1: 1 0");
        d.is("find", d.x.find(0), 1);
        d.is("gone", d.x.wired(2), -1);
        d.is("wire", wire(d), "0 -1 -1: 1 0");
        d.x.flow(0);
        d.x.weave();
        d.is("flow and weave leave it", d.x.wired(2), 1);
        // WARPED: of is no text, so none is.
        d.feed(new byte[] {1, 4, 'w', 'a', 'n', 't', 1, 2, 'o', 'f', 3, 1, 'Z'});
        d.is("give", d.x.give(1), 1);
        d.is("wire", wire(d), "1 1 0:");
        d.feed(KINDS);
        d.is("compile", d.compile(), Due.ILLEGAL_ARGUMENT);
        d.is("no program", d.x.wire(), -1);
        d.is("no program", d.x.wired(0), -1);
    }
}
