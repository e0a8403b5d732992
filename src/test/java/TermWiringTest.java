/** Term 6, WIRING: each sentence that names a bound, at the bound and on both sides of it. */
public final class TermWiringTest {
    private static final String KINDS = "kind part(label:text='')heirs;kind want(of:text='',label:text='',late:int=0)many;";
    private static final int NO = 255;

    public static void main(String[] args) {
        parts();
        labelsOfParts();
        wants();
        wantedClass();
        wantedLabel();
        lateOnes();
        madeInOrder();
        lack();
        tie();
        ring();
        firstMet();
        fullest();
        Due.close();
    }

    private static String wire(Due d) {
        StringBuilder all = new StringBuilder();
        all.append(d.x.wire()).append(" ").append(d.x.wired(0)).append(" ").append(d.x.wired(1)).append(":");
        int what = 2;
        for (int c = d.x.wired(2); c >= 0; c = d.x.wired(what)) {
            all.append(" ").append(c);
            what++;
        }
        return all.toString();
    }

    /** What wire() answers, wired(0), wired(1), and the CLASSES MADE. */
    private static void wires(String about, String program, String due) {
        Due d = Due.with(about + " [" + program + "]", program);
        d.is("wire", wire(d), due);
    }

    private static void parts() {
        String about = "PARTS are CLASSES with an EFFECTIVE MARK of the KIND named part";
        wires(about, "class A{}", "0 -1 -1:");
        wires(about, "kind part;class A{}class B@part{}", "0 -1 -1: 1");
        wires(about, "kind part;class A@part{}class B:A{}", "0 -1 -1: 0");
        wires(about, "kind part heirs;class A@part{}class B:A{}class C:B@no part{}", "0 -1 -1: 0 1");
        wires(about, "kind part;kind p=@part;class A@p{}", "0 -1 -1: 0");
        wires(about, "kind part;kind p=@part;class A@p@no part{}", "0 -1 -1:");
        wires(about, "kind Part;class A@Part{}", "0 -1 -1:");
        wires(about, "kind part on field;kind p=@part;class A@p{field f@part;}", "0 -1 -1: 0");
        Due d = Due.with(about, "kind part;class A{}");
        d.is("give", d.give(0, 2, "part", 0, "part", 0), 2);
        d.is("one that does not COUNT", wire(d), "0 -1 -1:");
        Due made = Due.with(about, "kind part;kind k;maker m:k adds @part;class A@k{}");
        made.is("ahead of the ROUND", wire(made), "0 -1 -1:");
        made.is("rounds", made.x.rounds(), 1);
        made.is("behind it", wire(made), "0 -1 -1: 0");
    }

    private static void labelsOfParts() {
        String about = "its LABEL is the VALUE of the MEMBER label of the first one, if that is a text (else '', also if there is no such MEMBER)";
        String two = "class B:A@part(label='x'){}class C:A@part(label='y'){}class D@part{field f@want(of='A',label='y');}";
        wires(about, KINDS + "class A{}" + two, "0 -1 -1: 1 2 3");
        String many = "kind part(label:text='d')many;kind want(of:text='A',label:text='');class A@part(label='x')@part(label='y'){}class B@part{field f@want(label='#');}";
        wires(about, many.replace("#", "x"), "0 -1 -1: 0 1");
        wires(about, many.replace("#", "y"), "1 101 1: 0");
        wires("the default", many.replace("#", "d"), "1 101 1: 0");
        wires("the default", many.replace("(label='x')@part(label='y')", "").replace("#", "d"), "0 -1 -1: 0 1");
        // A label that is no text, and none: '', which only a want without label finds.
        for (String kind : new String[] {"kind part;", "kind part(label:int=1);", "kind part(l:text='x');", "kind part(Label:text='x');"}) {
            wires(about, kind + "kind want(of:text,label:text='');class A@part{}class B@part{field f@want(of='A');}", "0 -1 -1: 0 1");
            wires(about, kind + "kind want(of:text,label:text='');class A@part{}class B@part{field f@want(of='A',label='x');}", "1 101 1: 0");
            wires(about, kind + "kind want(of:text,label:text='');class A@part{}class B@part{field f@want(of='A',label='1');}", "1 101 1: 0");
        }
        Due d = Due.with(about, "kind part(label:text='d');kind want(of:text,label:text);class A{}class B@part(label=''){field f@want(of='A',label='x');}");
        Object[][] files = {{1, "part", 1, "label", 2, "x"}, {1, "part", 1, "label", 1, 0, 0, 0, 0}, {1, "part", 1, "label", 3, "x"}, {1, "part", 0},
            {1, "part", 2, "label", 3, "x", "label", 2, "x"}, {1, "part", 2, "label", 2, "x", "label", 2, "y"}, {1, "part", NO}};
        String[] due = {"0 -1 -1: 0 1", "1 101 1: 0", "1 101 1: 0", "1 101 1: 0", "1 101 1: 0", "0 -1 -1: 0 1", "1 101 1:"};
        for (int k = 0; k < files.length; k++) {
            d.is("give", d.give(0, files[k]), 1);
            d.is("FILE " + k, wire(d), due[k]);
        }
    }

    private static void wants() {
        String about = "A PART WANTS for each FIELD of it and its PARENTS (the highest PARENT's first) with an EFFECTIVE MARK (the first one counts) of the"
                + " KIND named want";
        wires(about, KINDS + "class A{field f@want(of='Q');}class B@part{}", "0 -1 -1: 1");
        wires("what no PART has is not wanted", KINDS + "class A@part{field f;}", "0 -1 -1: 0");
        wires(about, KINDS + "class A{field a@want(of='X');field b@want(of='Y');}class B:A{field a@want(of='U');}class C:B@part{field c@want(of='V');}"
                + "class U@part{}class V@part{}class Y@part{}class X@part{}", "0 -1 -1: 6 5 3 4 2");
        wires("the first one counts", KINDS + "class A@part{field f@want(of='B')@want(of='Q');}class B@part{}", "0 -1 -1: 1 0");
        wires("the first one counts", KINDS + "class A@part{field f@want(of='Q')@want(of='B');}class B@part{}", "1 1 0:");
        wires("GIVEN ones too", KINDS + "kind w=@want(of='B');class A@part{field f@w;}class B@part{}", "0 -1 -1: 1 0");
        wires("the first KIND of all", "kind want(of:text);kind part;class A@part{field f@want(of='B');}class B@part{}", "0 -1 -1: 1 0");
        wires("no want", KINDS + "kind w=@want(of='Q');class A@part{field f@w@no want;}", "0 -1 -1: 0");
        wires("MARKS of CLASSES and METHODS are no wants", KINDS + "class A@part@want(of='Q'){method m(p@want(of='Q'))@want(of='Q'){read;ret;}}", "0 -1 -1: 0");
        wires("a KIND of another NAME", "kind part;kind Want(of:text);class A@part{field f@Want(of='Q');}", "0 -1 -1: 0");
    }

    private static void wantedClass() {
        String about = "a PART that is the CLASS named by the MEMBER of (no text: none is), or has it as a PARENT, PARENT's PARENT and so on";
        wires(about, KINDS + "class A@part{}class B@part{field f@want(of='A');}", "0 -1 -1: 0 1");
        wires(about, KINDS + "class A{}class B:A@part{}class C@part{field f@want(of='A');}", "0 -1 -1: 1 2");
        wires(about, KINDS + "class A{}class B:A{}class C:B{}class D:C@part{}class E@part{field f@want(of='A');}", "0 -1 -1: 3 4");
        wires("not the other way", KINDS + "class A@part{}class B:A@no part{}class C@part{field f@want(of='B');}", "1 201 2: 0");
        wires("a CLASS that is no PART", KINDS + "class A{}class B@part{field f@want(of='A');}", "1 101 1:");
        wires("no CLASS", KINDS + "class A@part{field f@want(of='part');}", "1 1 0:");
        wires("no CLASS", KINDS + "class A@part{field f@want(of='');}", "1 1 0:");
        wires("no CLASS", KINDS + "class A@part{}class B@part{field f@want(of='A ');}", "1 101 1: 0");
        wires("no text", "kind part;kind want(of:int=0);class A@part{field f@want;}", "1 1 0:");
        wires("no such MEMBER", "kind part;kind want;class A@part{field f@want;}", "1 1 0:");
        Due d = Due.with(about, KINDS + "class A@part{}class B@part{field f;}");
        Object[][] files = {{1, "want", 1, "of", 2, "A"}, {1, "want", 1, "of", 3, "A"}, {1, "want", 1, "of", 1, 0, 0, 0, 65}, {1, "want", 0},
            {1, "want", 2, "of", 2, "A", "of", 2, "Q"}, {1, "want", NO}};
        String[] due = {"0 -1 -1: 0 1", "1 101 1: 0", "1 101 1: 0", "1 101 1: 0", "0 -1 -1: 0 1", "0 -1 -1: 0 1"};
        for (int k = 0; k < files.length; k++) {
            d.is("give", d.give(101, files[k]), 1);
            d.is("FILE " + k, wire(d), due[k]);
        }
        // The longest row of PARENTS.
        StringBuilder chain = new StringBuilder(KINDS + "class A{}");
        for (char c = 'B'; c <= 'J'; c++) {
            chain.append("class ").append(c).append(":").append((char) (c - 1)).append("{}");
        }
        wires(about, chain + "class K:J@part{}class L@part{field f@want(of='A');}", "0 -1 -1: 10 11");
    }

    private static void wantedLabel() {
        String about = "with the LABEL that the MEMBER label is, unless that is ''";
        String parts = KINDS + "class A{}class B:A@part(label='x'){}class C:A@part{}class D@part{field f@want(of='#',label='$');}";
        wires(about, parts.replace("#", "A").replace("$", "x"), "0 -1 -1: 1 2 3");
        wires(about, parts.replace("#", "A").replace("$", ""), "2 301 3: 1 2");
        wires(about, parts.replace("#", "A").replace("$", "y"), "1 301 3: 1 2");
        wires(about, parts.replace("#", "B").replace("$", ""), "0 -1 -1: 1 2 3");
        wires(about, parts.replace("#", "C").replace("$", "x"), "1 301 3: 1 2");
        wires("eight signs", parts.replace("'x'", "'abcdefgh'").replace("#", "A").replace("$", "abcdefgh"), "0 -1 -1: 1 2 3");
        wires("eight signs", parts.replace("'x'", "'abcdefgh'").replace("#", "A").replace("$", "abcdefg"), "1 301 3: 1 2");
        wires("a label that is no text is as ''", "kind part(label:text);kind want(of:text,label:int=7);class A@part(label='7'){}"
                + "class B@part(label=''){field f@want(of='A');}", "0 -1 -1: 0 1");
    }

    private static void lateOnes() {
        String about = "it is LATE, if the MEMBER late is a number that is not 0 (a LATE one may be LACK and TIE, too)";
        String[] numbers = {"0", "1", "-1", "999999999", "-0"};
        for (String number : numbers) {
            boolean late = !number.equals("0") && !number.equals("-0");
            wires(about, KINDS + "class A@part{field f@want(of='A',late=" + number + ");}", late ? "0 -1 -1: 0" : "3 1 0:");
        }
        wires("what is LATE is not MADE first", KINDS + "class A@part{field f@want(of='B',late=1);}class B@part{}", "0 -1 -1: 0 1");
        wires("LACK", KINDS + "class A@part{field f@want(of='B',late=1);}", "1 1 0:");
        wires("TIE", KINDS + "class A{}class B:A@part{}class C:A@part{}class D@part{field f@want(of='A',late=1);}", "2 301 3: 1 2");
        wires("late as a text", "kind part;kind want(of:text,late:text='1');class A@part{field f@want(of='A');}", "3 1 0:");
        wires("no such MEMBER", "kind part;kind want(of:text);class A@part{field f@want(of='A');}", "3 1 0:");
        Due d = Due.with(about, KINDS + "class A@part{field f;}");
        Object[][] files = {{1, "want", 2, "of", 2, "A", "late", 1, 128, 0, 0, 0}, {1, "want", 2, "of", 2, "A", "late", 2, "1"},
            {1, "want", 2, "of", 2, "A", "late", 3, "x"}, {1, "want", 2, "of", 2, "A", "late", 1, 0, 0, 1, 0}};
        String[] due = {"0 -1 -1: 0", "3 1 0:", "3 1 0:", "0 -1 -1: 0"};
        for (int k = 0; k < files.length; k++) {
            d.is("give", d.give(1, files[k]), 1);
            d.is("FILE " + k, wire(d), due[k]);
        }
    }

    private static void madeInOrder() {
        String about = "PARTS are MADE in order of CLASSES: what one WANTS is MADE first (if it is not LATE), want by want, then it itself";
        wires(about, KINDS + "class A@part{}class B@part{}class C@part{}", "0 -1 -1: 0 1 2");
        wires(about, KINDS + "class A@part{field f@want(of='C');field g@want(of='B');}class B@part{}class C@part{}", "0 -1 -1: 2 1 0");
        wires("MADE once", KINDS + "class A@part{field f@want(of='C');field g@want(of='C');}class B@part{field f@want(of='C');}class C@part{}", "0 -1 -1: 2 0 1");
        wires("in turn", KINDS + "class A@part{field f@want(of='B');}class B@part{field f@want(of='C');}class C@part{field f@want(of='D');}class D@part{}",
                "0 -1 -1: 3 2 1 0");
        wires("a LATE one in its turn", KINDS + "class A@part{field f@want(of='C',late=1);field g@want(of='B');}class B@part{}class C@part{}", "0 -1 -1: 1 0 2");
    }

    private static void lack() {
        String about = "1 LACK: a want for which there is none";
        wires(about, KINDS + "class A@part{}class B@part{field e@want(of='A');field f@want(of='Q');}class C@part{}", "1 102 1: 0");
        wires("of a PARENT's FIELD, by the PART", KINDS + "class A{field f@want(of='Q');}class B:A{}class C:B@part{}", "1 1 2:");
        wires("by one that is MADE first", KINDS + "class A@part{field f@want(of='C');}class B@part{}class C@part{field f@want(of='Q');}", "1 201 2:");
    }

    private static void tie() {
        String about = "2 TIE: more than one";
        wires(about, KINDS + "class A@part{}class B:A{}class C@part{field f@want(of='A');}", "2 201 2: 0 1");
        wires("just one", KINDS + "class A@part{}class B:A@no part{}class C@part{field f@want(of='A');}", "0 -1 -1: 0 2");
        wires("itself among them", KINDS + "class A@part{field f@want(of='A');}class B:A{}", "2 1 0:");
        wires("three", KINDS + "class A@part{}class B:A{}class C:A{}class D@part{field f@want(of='A');}", "2 301 3: 0 1 2");
    }

    private static void ring() {
        String about = "3 RING: one that is not LATE and is being MADE already";
        wires(about, KINDS + "class A@part{field f@want(of='A');}", "3 1 0:");
        wires(about, KINDS + "class A@part{field f@want(of='B');}class B@part{field f@want(of='A');}", "3 101 1:");
        wires("LATE ones break it", KINDS + "class A@part{field f@want(of='B',late=1);}class B@part{field f@want(of='A');}", "0 -1 -1: 0 1");
        wires("LATE ones break it", KINDS + "class A@part{field f@want(of='B');}class B@part{field f@want(of='A',late=1);}", "0 -1 -1: 1 0");
        wires("what was MADE is no RING", KINDS + "class A@part{}class B@part{field f@want(of='A');field g@want(of='A');}", "0 -1 -1: 0 1");
        // All twelve in one ring.
        StringBuilder twelve = new StringBuilder(KINDS);
        for (char c = 'A'; c <= 'L'; c++) {
            twelve.append("class ").append(c).append("@part{field f@want(of='").append(c == 'L' ? 'A' : (char) (c + 1)).append("');}");
        }
        wires(about, twelve.toString(), "3 1101 11:");
        wires("twelve in a row", twelve.toString().replace("{field f@want(of='A');}", "{}"), "0 -1 -1: 11 10 9 8 7 6 5 4 3 2 1 0");
    }

    private static void firstMet() {
        String about = "The first that is met";
        wires(about, KINDS + "class A@part{field f@want(of='A');field g@want(of='Q');}", "3 1 0:");
        wires(about, KINDS + "class A@part{field f@want(of='Q');field g@want(of='A');}", "1 1 0:");
        wires(about, KINDS + "class A@part{field f@want(of='B');field g@want(of='Q');}class B@part{field f@want(of='A');}", "3 101 1:");
        wires(about, KINDS + "class A@part{field f@want(of='B');}class B@part{}class C@part{field f@want(of='Q');}class D@part{field f@want(of='D');}", "1 201 2: 1 0");
    }

    /** The most there can be: a PART with eight FIELDS of each of eleven PARENTS, and they all WANT. */
    private static void fullest() {
        StringBuilder text = new StringBuilder("kind part heirs;kind want(of:text);kind w=@want(of='L');class A{" + Due.times(8, "field #@w;") + "}");
        for (char c = 'B'; c <= 'K'; c++) {
            text.append("class ").append(c).append(":").append((char) (c - 1)).append("{").append(Due.times(8, "field #@w;")).append("}");
        }
        wires("all FIELDS of all PARENTS", text + "class L@part{}", "0 -1 -1: 11");
        wires("all FIELDS of all PARENTS", text.toString().replace("class K:J{", "class K:J@part{") + "class L@part{}", "0 -1 -1: 11 10");
        wires("the last FIELD", text.toString().replace("class K:J{", "class K:J@part{").replace("field H@w;}class C", "field H@want(of='Q');}class C")
                + "class L@part{}", "1 108 10: 11");
    }
}
