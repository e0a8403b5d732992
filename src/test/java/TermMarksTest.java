/** Terms 2 and 3, ORDERS and MARKS: each sentence that names a bound, at the bound and on both sides of it. */
public final class TermMarksTest {
    private static final int NO = 255;

    public static void main(String[] args) {
        below();
        joinsAndMeets();
        topAndBottom();
        places();
        ownMarks();
        howManyMarks();
        howManyPairs();
        namesOfFiles();
        signsOfFiles();
        numbersOfFiles();
        textsOfFiles();
        sortsOfPairs();
        behindThemNothing();
        cutFiles();
        countsByName();
        countsByPlace();
        countsOnce();
        countsNot();
        valueOfAMember();
        elementOfAMark();
        ownOnes();
        aNo();
        givenInTurn();
        givenByTheFirst();
        givenAnywhere();
        placeAbove();
        stepsAbove();
        clash();
        makersEffective();
        makersByNow();
        fewerThan20();
        roundsGoOn();
        Due.close();
    }

    private static void below() {
        Due d = Due.with("a is BELOW b if they are alike, or a < b is told, or a is BELOW one that is BELOW b",
                "order o:a<b,b<c,c<d,a<e,e<d;class A{}");
        // a 0, b 1, c 2, d 3, e 4
        String[] rows = {"11111", "01110", "00110", "00010", "00011"};
        for (int a = 0; a < 5; a++) {
            for (int b = 0; b < 5; b++) {
                d.is(a + " below " + b, d.x.order(0, a, b, 0), rows[a].charAt(b) - '0');
            }
        }
    }

    private static void joinsAndMeets() {
        Due d = Due.with("The JOIN of two is the one that both are BELOW and that is BELOW all such; the MEET turned round",
                "order o:a<b,b<c,c<d,a<e,e<d;class A{}");
        String[] joins = {"01234", "11233", "22233", "33333", "43334"};
        String[] meets = {"00000", "01110", "01220", "01234", "00044"};
        for (int a = 0; a < 5; a++) {
            for (int b = 0; b < 5; b++) {
                d.is("join of " + a + " and " + b, d.x.order(0, a, b, 1), joins[a].charAt(b) - '0');
                d.is("meet of " + a + " and " + b, d.x.order(0, a, b, 2), meets[a].charAt(b) - '0');
            }
        }
        Due cube = Due.with("JOINS in a cube", "order o:z<a,z<b,z<c,a<x,b<x,a<y,c<y,b<w,c<w,x<u,y<u,w<u;class A{}");
        // z 0, a 1, b 2, c 3, x 4, y 5, w 6, u 7
        cube.is("a and b", cube.x.order(0, 1, 2, 1), 4);
        cube.is("a and w", cube.x.order(0, 1, 6, 1), 7);
        cube.is("x and y", cube.x.order(0, 4, 5, 2), 1);
        cube.is("c and x", cube.x.order(0, 3, 4, 2), 0);
    }

    private static void topAndBottom() {
        String about = "TOP: all are BELOW it; BOTTOM: it is BELOW all";
        String[] texts = {"order o:a;", "order o:a<b;", "order o:b<c,a<b;", "order o:m<u,z<m,z<n,n<u;"};
        int[] tops = {0, 1, 1, 1};
        int[] bottoms = {0, 0, 2, 2};
        for (int k = 0; k < texts.length; k++) {
            Due d = Due.with(about, texts[k] + "class A{field f;method m(p){push 1;store v;load v;ret;}}");
            d.is("TOP at first", d.x.markOf(1, 0), tops[k]);
            d.is("flow", d.x.flow(0), 0);
            d.is("TOP of a PARAMETER", d.x.state(20, 0, 0), tops[k]);
            d.is("BOTTOM of another LOCAL", d.x.state(20, 0, 1), bottoms[k]);
            d.is("find", d.x.find(0), 3);
            d.is("BOTTOM", d.x.markOf(1, 0), bottoms[k]);
            d.is("BOTTOM of the METHOD", d.x.markOf(20, 0), bottoms[k]);
            d.is("BOTTOM of the PARAMETER", d.x.markOf(21, 0), bottoms[k]);
        }
    }

    /** The fullest program: twelve CLASSES of eight FIELDS and eight METHODS of four PARAMETERS. */
    private static void places() {
        StringBuilder text = new StringBuilder();
        for (char c = 'A'; c <= 'L'; c++) {
            text.append("class ").append(c).append("{").append(Due.times(8, "field #;"));
            text.append(Due.times(8, "method #(a,b,c,d){read;ret;}")).append("}");
        }
        for (int from = -100; from < 1400; from += 250) {
            Due d = Due.with("PLACES have numbers: CLASS c 100 c; its FIELD f 100 c + 1 + f; its METHOD m (its result) 100 c + 20 + 10 m; that one's"
                    + " PARAMETER k 1 + k more; all from 0 on, as told", text.toString());
            for (int place = from; place < from + 250; place++) {
                int rest = Math.floorMod(place, 100);
                boolean is = place >= 0 && place < 1200 && (rest <= 8 || rest >= 20 && rest % 10 <= 4);
                d.is("PLACE " + place, d.x.size(10, place), is ? 0 : -1);
            }
        }
        Due odd = Due.with("PLACES of what is there alone", "class A{field f;method m(){read;ret;}method n(p,q){read;ret;}}class B{}");
        String there = " 0 1 20 30 31 32 100 ";
        for (int place = -30; place < 230; place++) {
            odd.is("PLACE " + place, odd.x.size(10, place), there.contains(" " + place + " ") ? 0 : -1);
        }
        int[] far = {Integer.MIN_VALUE, Integer.MIN_VALUE + 1, Integer.MAX_VALUE, -100, -1200, 1200, 2147483600};
        for (int place : far) {
            odd.is("PLACE " + place, odd.x.size(10, place), -1);
        }
    }

    private static void ownMarks() {
        Due d = Due.with("A PLACE has OWN MARKS in a row, each a NAME, perhaps no, and else PAIRS (of ORDERS in texts one PAIR: at and the ELEMENT)",
                "order o:low<high;kind k(n:int,s:text='x')many;class A@k(n=1)@no k@k(s='ab',n=-2){field f@o.high@k(n=0);}");
        d.is("size", d.x.size(10, 0), 3);
        d.is("file", d.x.file(0), Due.bytes(3, "k", 1, "n", 1, 0, 0, 0, 1, "k", NO, "k", 2, "s", 2, "ab", "n", 1, 0, 0, 0, 0).length);
        d.is("the out", d.out(), text(3, "k", 1, "n", 1, 0, 0, 0, 1, "k", NO, "k", 2, "s", 2, "ab", "n", 1, NO, NO, NO, 254));
        d.x.file(1);
        d.is("at and the ELEMENT", d.out(), text(2, "o", 1, "at", 3, "high", "k", 1, "n", 1, 0, 0, 0, 0));
    }

    private static String text(Object... parts) {
        StringBuilder all = new StringBuilder();
        for (byte b : Due.bytes(parts)) {
            all.append((char) (b & 255));
        }
        return all.toString();
    }

    private static Due plain(String about) {
        return Due.with(about, "order o:a<b;kind k(n:int=0,s:text='');kind w many;class A{field f;method m(p){read;ret;}}");
    }

    /** The FILE is taken, and told again as it came. */
    private static void taken(Due d, Object... parts) {
        String file = text(parts);
        d.is("give", d.give(1, parts), file.charAt(0));
        d.is("file", d.x.file(1), file.length());
        d.is("the same FILE", d.out(), file);
    }

    /** The FILE is not taken: wrong at this byte. */
    private static void refused(Due d, int wrong, Object... parts) {
        d.is("give", d.give(1, parts), -1000 - wrong);
    }

    private static void howManyMarks() {
        String about = "THE FILE of a PLACE: a byte, how many MARKS (0 to 20)";
        taken(plain(about), 0);
        taken(plain(about), 1, "k", 0);
        taken(plain(about), Due.marks(19, "w", 0));
        Due d = plain(about);
        taken(d, Due.marks(20, "w", 0));
        d.is("all count", d.x.effective(1, 1), 20);
        for (int count = 21; count < 256; count++) {
            refused(plain(about), 0, Due.marks(count, "w", 0));
        }
        refused(plain(about), 0, 255);
        refused(plain(about), 0, 128);
        refused(plain(about), 0);
    }

    private static void howManyPairs() {
        String about = "each: its NAME; 255 for no, else how many PAIRS (0 to 4)";
        taken(plain(about), 1, "k", 0);
        taken(plain(about), 1, "k", 4, "a", 1, 0, 0, 0, 0, "a", 2, "", "a", 3, "x", "a", 1, 1, 2, 3, 4);
        taken(plain(about), 1, "k", NO);
        for (int count = 5; count < 255; count++) {
            refused(plain(about), 3, 1, "k", count, "a", 2, "", "a", 2, "", "a", 2, "", "a", 2, "", "a", 2, "");
        }
        refused(plain("no has no PAIRS"), 4, 1, "k", NO, "a", 2, "");
        Due d = plain(about);
        taken(d, 2, "k", NO, "o", 1, "at", 3, "a");
        d.is("no", d.mark(1, 0), "0 1 1 0");
        d.is("o", d.mark(1, 1), "100 1 0 1");
    }

    private static void namesOfFiles() {
        String about = "A NAME is a byte, how many (1 to 8), and its signs (here WORDS, too)";
        refused(plain(about), 1, 1, "", 0);
        taken(plain(about), 1, "a", 0);
        taken(plain(about), 1, "abcdefg8", 0);
        refused(plain(about), 1, 1, "abcdefgh9", 0);
        refused(plain(about), 1, 1, 255);
        taken(plain(about), 3, "order", 0, "no", NO, "as", 1, "class", 3, "method");
        refused(plain(about), 4, 1, "k", 1, "", 2, "");
        taken(plain(about), 1, "k", 1, "abcdefgh", 2, "");
        refused(plain(about), 4, 1, "k", 1, "abcdefghi", 2, "");
        refused(plain(about), 7, 1, "k", 1, "n", 3, "");
        taken(plain(about), 1, "k", 1, "n", 3, "abcdefgh");
        refused(plain(about), 7, 1, "k", 1, "n", 3, "abcdefghi");
    }

    private static void signsOfFiles() {
        for (int b = 0; b < 256; b++) {
            String sign = Character.toString((char) b);
            boolean letter = b >= 'a' && b <= 'z' || b >= 'A' && b <= 'Z';
            boolean digit = b >= '0' && b <= '9';
            Due d = plain("A NAME is .. its signs: byte " + b);
            if (letter) {
                taken(d, 1, sign, 0);
                taken(d, 1, "k", 1, sign, 3, sign);
            } else {
                refused(d, 2, 1, sign, 0);
                refused(d, 5, 1, "k", 1, sign, 2, "");
                refused(d, 8, 1, "k", 1, "n", 3, sign);
            }
            if (letter || digit) {
                taken(d, 1, "a" + sign, 0);
                taken(d, 1, "abcdefg" + sign, 0);
            } else {
                refused(d, 3, 1, "a" + sign, 0);
                refused(d, 9, 1, "abcdefg" + sign, 0);
            }
            if (b >= 32 && b <= 126 && b != '\'') {
                taken(d, 1, "k", 1, "n", 2, sign);
                taken(d, 1, "k", 1, "n", 2, "abcdefg" + sign);
            } else {
                refused(d, 8, 1, "k", 1, "n", 2, sign);
                refused(d, 15, 1, "k", 1, "n", 2, "abcdefg" + sign);
            }
        }
    }

    private static void numbersOfFiles() {
        String about = "1 and four bytes, the highest first";
        int[] numbers = {0, 1, -1, 255, 256, 65535, 65536, 16777215, 16777216, Integer.MAX_VALUE, Integer.MIN_VALUE, 999999999, 1000000000, -1000000000};
        for (int n : numbers) {
            Due d = plain(about);
            taken(d, 1, "k", 1, "n", 1, n >> 24, n >> 16, n >> 8, n);
            d.is("ask", d.ask(1, 0, 0, 0), "1 " + n);
            d.x.tell();
            String told = n < 0 ? "- " + -(long) n : Integer.toString(n);
            d.is("told", d.out().contains("field f @ k ( n = " + told + " ) ;"), true);
        }
        refused(plain(about), 7, 1, "k", 1, "n", 1);
        refused(plain(about), 10, 1, "k", 1, "n", 1, 0, 0, 0);
    }

    private static void textsOfFiles() {
        String about = "a text a byte, 0 to 8, and its signs (32 .. 126 but ')";
        taken(plain(about), 1, "k", 1, "s", 2, "");
        taken(plain(about), 1, "k", 1, "s", 2, "~");
        Due d = plain(about);
        taken(d, 1, "k", 1, "s", 2, "ab !\"#~ ");
        d.is("ask", d.ask(1, 0, 0, 1), "2 ab !\"#~ ");
        refused(plain(about), 7, 1, "k", 1, "s", 2, "abcdefghi");
        refused(plain(about), 7, 1, "k", 1, "s", 2, 255);
        refused(plain(about), 15, 1, "k", 1, "s", 2, 8, 97, 97, 97, 97, 97, 97, 97);
    }

    private static void sortsOfPairs() {
        String about = "each: its NAME; 1 and four bytes, or 2 and a text, or 3 and a NAME";
        for (int sort = 0; sort < 256; sort++) {
            if (sort < 1 || sort > 3) {
                refused(plain(about), 6, 1, "k", 1, "n", sort, 1, 97, 97, 97);
            }
        }
        taken(plain(about), 1, "k", 1, "n", 1, 1, 97, 97, 97);
        taken(plain(about), 1, "k", 1, "n", 2, 1, 97);
        taken(plain(about), 1, "k", 1, "n", 3, 1, 97);
    }

    private static void behindThemNothing() {
        String about = "Behind them nothing";
        for (int b = 0; b < 256; b += 51) {
            refused(plain(about), 1, 0, b);
            refused(plain(about), 4, 1, "k", 0, b);
            refused(plain(about), 4, 1, "k", NO, b);
        }
        refused(plain(about), 8, 1, "k", 1, "n", 2, "", 0);
        refused(plain(about), 61, Due.marks(20, "k", 0), 0);
    }

    private static void refused(Due d, int wrong, Object[] marks, int more) {
        Object[] parts = new Object[marks.length + 1];
        System.arraycopy(marks, 0, parts, 0, marks.length);
        parts[marks.length] = more;
        refused(d, wrong, parts);
    }

    private static void cutFiles() {
        Due d = plain("the first byte that can't stand there, the length at the end");
        byte[] file = Due.bytes(3, "k", 3, "n", 1, 1, 2, 3, 4, "s", 2, "ab", "x", 3, "y1", "order", NO, "o", 1, "at", 3, "a");
        for (int length = 0; length < file.length; length++) {
            byte[] part = new byte[length];
            System.arraycopy(file, 0, part, 0, length);
            d.feed(part);
            d.is("give of " + length + " bytes", d.x.give(1), -1000 - length);
        }
        d.feed(file);
        d.is("give of all", d.x.give(1), 3);
        // The fullest FILE there can be: 20 MARKS of four PAIRS.
        Object[] parts = Due.marks(20, "abcdefgh", 4, "abcdefgh", 2, "abcdefgh", "abcdefgh", 2, "abcdefgh", "abcdefgh", 3, "abcdefgh",
                "abcdefgh", 1, 1, 2, 3, 4);
        d.is("give", d.give(20, parts), 20);
        d.is("file", d.x.file(20), text(parts).length());
        d.is("its last byte", d.x.out(text(parts).length() - 1), 4);
        d.is("nothing behind", d.x.out(text(parts).length()), -1);
    }

    private static void countsByName() {
        Due d = Due.with("A MARK COUNTS, if its NAME is that of a KIND or ORDER", "order o:a;kind k;maker m:k adds @k;class A{field f;method g(p){read;ret;}}");
        d.is("give", d.give(1, 8, "k", 0, "o", 1, "at", 3, "a", "m", 0, "A", 0, "f", 0, "a", 0, "kk", 0, "class", NO), 8);
        String[] due = {"0 1 0 0", "100 1 0 1", "-1 0 0 0", "-1 0 0 0", "-1 0 0 0", "-1 0 0 0", "-1 0 0 0", "-1 0 1 0"};
        for (int i = 0; i < due.length; i++) {
            d.is("mark " + i, d.mark(1, i), due[i]);
        }
    }

    private static void countsByPlace() {
        String about = "which can stand at this sort of PLACE";
        Due d = Due.with(about, "order o:a;kind c on class;kind f on field;kind m on method;kind p on param;kind k;"
                + "class A{field f;method g(p){read;ret;}}");
        int[] places = {0, 1, 20, 21};
        for (int sort = 0; sort < 4; sort++) {
            d.is("give", d.give(places[sort], 6, "c", 0, "f", NO, "m", 0, "p", NO, "k", 0, "o", 1, "at", 3, "a"), 6);
            for (int i = 0; i < 4; i++) {
                d.is("KIND " + i + " at " + places[sort], d.x.mark(places[sort], i, 1), i == sort ? 1 : 0);
            }
            d.is("k everywhere", d.x.mark(places[sort], 4, 1), 1);
            d.is("ORDERS not at a CLASS", d.x.mark(places[sort], 5, 1), sort == 0 ? 0 : 1);
            d.is("effective", d.x.effective(places[sort], 100), sort == 0 ? 0 : 1);
        }
    }

    private static void countsOnce() {
        String about = "and is that of no other MARK there, unless it is a KIND that is many";
        Due d = plain(about);
        d.is("give", d.give(1, 5, "k", 0, "w", 0, "k", 0, "w", 0, "o", 1, "at", 3, "a"), 5);
        d.is("k", d.x.mark(1, 0, 1), 0);
        d.is("w", d.x.mark(1, 1, 1), 1);
        d.is("k", d.x.mark(1, 2, 1), 0);
        d.is("w", d.x.mark(1, 3, 1), 1);
        d.is("o once", d.x.mark(1, 4, 1), 1);
        d.is("give", d.give(1, 2, "o", NO, "o", 1, "at", 3, "a"), 2);
        d.is("o twice", d.x.mark(1, 0, 1), 0);
        d.is("o twice", d.x.mark(1, 1, 1), 0);
        d.is("no EFFECTIVE one", d.x.effective(1, 100), 0);
        // Two of a KIND that is many and can't stand there.
        Due there = Due.with(about, "kind w on class many;class A{field f;}");
        there.is("give", there.give(1, 2, "w", 0, "w", 0), 2);
        there.is("w", there.x.mark(1, 0, 1), 0);
        there.is("w", there.x.mark(1, 1, 1), 0);
        // The first and the last of twenty.
        Due far = plain(about);
        Object[] twenty = Due.marks(20, "w", 0);
        twenty[1] = "k";
        twenty[39] = "k";
        far.is("give", far.give(1, twenty), 20);
        far.is("k", far.x.mark(1, 0, 1), 0);
        far.is("k", far.x.mark(1, 19, 1), 0);
        far.is("w", far.x.effective(1, 1), 18);
    }

    private static void countsNot() {
        String about = "What does not is passed by in all that follows, but in the FILE";
        Due d = Due.with(about, "order o:a<b;kind k heirs;kind g=@k@o.a;class A@k{field f;method m(){push 1;ret;}}class B:A{method m(){push 1;ret;}}");
        // A no that does not COUNT does not end what comes from above, nor does one that GIVES give.
        d.is("give", d.give(100, 2, "k", NO, "k", NO), 2);
        d.is("from above", d.whence(100, 0), "0 1 0 0");
        d.is("give", d.give(1, 3, "g", 0, "g", 0, "x", 1, "at", 3, "a"), 3);
        d.is("nothing GIVEN", d.x.effective(1, 100), 0);
        d.is("THE MARK", d.x.markOf(1, 0), 1);
        d.is("the FILE has all", d.x.file(1), 16);
        d.x.tell();
        d.is("tell has none", d.out().contains("field f ;"), true);
        // An OWN one that does not COUNT leaves the GIVEN one.
        d.is("give", d.give(1, 3, "g", 0, "o", 1, "at", 3, "b", "o", 1, "at", 3, "b"), 3);
        d.is("GIVEN", d.whence(1, 100), "1 0 1 0");
    }

    private static void valueOfAMember() {
        Due d = Due.with("The VALUE of a MEMBER: that of the first PAIR with its NAME, WARPED if of another sort; without a PAIR the default,"
                + " MISSING without one", "kind k(n:int=7,s:text='d',m:int,t:text);class A{}");
        d.is("give", d.give(0, 1, "k", 4, "n", 1, 0, 0, 0, 1, "n", 2, "x", "s", 2, "y", "s", 1, 0, 0, 0, 2), 1);
        d.is("the first of n", d.ask(0, 0, 0, 0), "1 1");
        d.is("the first of s", d.ask(0, 0, 0, 1), "2 y");
        d.is("m is MISSING", d.ask(0, 0, 0, 2), "-3");
        d.is("t is MISSING", d.ask(0, 0, 0, 3), "-3");
        d.is("give", d.give(0, 1, "k", 4, "n", 2, "x", "n", 1, 0, 0, 0, 1, "s", 1, 0, 0, 0, 2, "s", 2, "y"), 1);
        d.is("WARPED, though a default is there", d.ask(0, 0, 0, 0), "-2");
        d.is("WARPED", d.ask(0, 0, 0, 1), "-2");
        d.is("give", d.give(0, 1, "k", 4, "n", 3, "x", "s", 3, "y", "m", 3, "x", "t", 3, "x"), 1);
        for (int member = 0; member < 4; member++) {
            d.is("a NAME is no VALUE", d.ask(0, 0, 0, member), "-2");
        }
        d.is("give", d.give(0, 1, "k", 2, "m", 2, "", "t", 1, 0, 0, 0, 0), 1);
        d.is("the default", d.ask(0, 0, 0, 0), "1 7");
        d.is("the default", d.ask(0, 0, 0, 1), "2 d");
        d.is("a text", d.ask(0, 0, 0, 2), "-2");
        d.is("a number", d.ask(0, 0, 0, 3), "-2");
        d.is("no fifth", d.ask(0, 0, 0, 4), "-1");
    }

    private static void elementOfAMark() {
        Due d = Due.with("The ELEMENT of an ORDER's MARK: that of the first PAIR named at, if it is a NAME, and one of its ELEMENTS; else it is WARPED,"
                + " and TOP counts", "order o:a<b,b<c;order p:x;class A{field f;}");
        Object[][] files = {{1, "o", 1, "at", 3, "a"}, {1, "o", 2, "at", 3, "b", "at", 3, "a"}, {1, "o", 2, "to", 3, "a", "at", 3, "b"},
            {1, "o", 1, "at", 3, "x"}, {1, "o", 1, "at", 2, "a"}, {1, "o", 1, "at", 1, 0, 0, 0, 0}, {1, "o", 0}, {1, "o", 1, "to", 3, "a"},
            {1, "o", 2, "at", 2, "a", "at", 3, "a"}, {1, "o", 1, "At", 3, "a"}, {1, "o", 1, "at", 3, "c"}};
        String[] asked = {"3 a", "3 b", "3 b", "-2", "-2", "-2", "-2", "-2", "-2", "-2", "3 c"};
        int[] elements = {0, 1, 1, 2, 2, 2, 2, 2, 2, 2, 2};
        for (int k = 0; k < files.length; k++) {
            d.is("give", d.give(1, files[k]), 1);
            d.is("effective", d.x.effective(1, 100), 1);
            d.is("ask of " + k, d.ask(1, 100, 0, 0), asked[k]);
            d.is("THE MARK of " + k, d.x.markOf(1, 0), elements[k]);
            d.is("it COUNTS", d.x.mark(1, 0, 1), 1);
        }
    }

    private static void ownOnes() {
        Due d = Due.with("EFFECTIVE MARKS of a KIND or ORDER at a PLACE: the OWN ones",
                "order o:a<b;kind k(n:int=0)heirs many;kind g=@k(n=9)@o.b;class A@k(n=8){}class B:A@g@k(n=1)@k(n=2)@no k@k(n=3){field f@g@o.a;}");
        d.is("three", d.x.effective(100, 0), 3);
        d.is("whence", d.whence(100, 0), "100 0 0 0");
        d.is("the first", d.ask(100, 0, 0, 0), "1 1");
        d.is("the second", d.ask(100, 0, 1, 0), "1 2");
        d.is("the third, behind the no", d.ask(100, 0, 2, 0), "1 3");
        d.is("no fourth", d.ask(100, 0, 3, 0), "-1");
        d.is("an ORDER's", d.whence(101, 100), "101 0 0 0");
        d.is("its ELEMENT", d.ask(101, 100, 0, 0), "3 a");
    }

    private static void aNo() {
        Due d = Due.with("if there are none, nothing, if a no of it that COUNTS stands there",
                "order o:a<b;kind k heirs many;kind g=@k@o.b;class A@k{method m(p@o.a)@o.a{read;ret;}}"
                + "class B:A@g@no k{method m(p@g@no o)@g@no o{read;ret;}}class C:B{method m(p){read;ret;}}");
        d.is("nothing GIVEN, nothing from above", d.x.effective(100, 0), 0);
        d.is("whence", d.whence(100, 0), "-1 -1 -1 -1");
        d.is("nothing at the METHOD", d.x.effective(120, 100), 0);
        d.is("nothing at the PARAMETER", d.x.effective(121, 100), 0);
        d.is("nothing behind it", d.x.effective(200, 0), 0);
        d.is("nothing behind it", d.x.effective(220, 100), 0);
        d.is("nothing behind it", d.x.effective(221, 100), 0);
        d.is("THE MARK is the FOUND one", d.x.markOf(120, 0), 1);
        // Two nos of a KIND that is many.
        d.is("give", d.give(100, 2, "k", NO, "k", NO), 2);
        d.is("nothing", d.x.effective(100, 0), 0);
        // The no of another KIND does nothing.
        d.is("give", d.give(100, 1, "g", NO), 1);
        d.is("from above", d.whence(100, 0), "0 1 0 0");
    }

    private static void givenInTurn() {
        String about = "a MARK GIVES the first one behind its KIND's = that is of the KIND or ORDER, or without such what the MARKS there GIVE in"
                + " turn, the first that GIVES one";
        Due d = Due.with(about, "order o:a<b;kind x(n:int)many;kind e;kind p=@x(n=1)@x(n=2);kind q=@x(n=3);kind r=@e@p@q;kind s=@p@x(n=4);"
                + "kind t=@e@r;kind u=@q@o.a@p;kind v=@u;class A{field f;}");
        String[] kinds = {"p", "q", "r", "s", "t", "u", "v"};
        String[] due = {"1 1", "1 3", "1 1", "1 4", "1 1", "1 3", "1 3"};
        for (int k = 0; k < kinds.length; k++) {
            d.is("give", d.give(1, 1, kinds[k], 0), 1);
            d.is("one", d.x.effective(1, 0), 1);
            d.is("of " + kinds[k], d.ask(1, 0, 0, 0), due[k]);
            d.is("an ORDER of " + kinds[k], d.x.effective(1, 100), k >= 5 ? 1 : 0);
        }
        d.is("give", d.give(1, 1, "e", 0), 1);
        d.is("e gives nothing", d.x.effective(1, 0), 0);
        d.is("give", d.give(1, 1, "r", NO), 1);
        d.is("a no gives nothing", d.x.effective(1, 0), 0);
        // The longest row: each KIND gives the one ahead of it.
        StringBuilder row = new StringBuilder("kind A;");
        for (char k = 'B'; k <= 'L'; k++) {
            row.append("kind ").append(k).append("=@").append((char) (k - 1)).append(";");
        }
        Due far = Due.with(about, row + "class Z@L{}");
        for (int kind = 0; kind < 12; kind++) {
            far.is("KIND " + kind, far.whence(0, kind), kind == 11 ? "0 0 0 0" : "0 0 1 0");
        }
    }

    private static void givenByTheFirst() {
        Due d = Due.with("likewise of the OWN ones the first that GIVES one",
                "kind x(n:int);kind e;kind p=@x(n=1);kind q=@x(n=2);kind r=@q;class A@e@r@p{}class B@p@r{}class C@e{}class D@no p@q{}");
        d.is("r is ahead", d.ask(0, 0, 0, 0), "1 2");
        d.is("p is ahead", d.ask(100, 0, 0, 0), "1 1");
        d.is("none gives", d.x.effective(200, 0), 0);
        d.is("what is no gives nothing", d.ask(300, 0, 0, 0), "1 2");
    }

    private static void givenAnywhere() {
        Due d = Due.with("whether that can stand at this sort of PLACE or not",
                "order o:a<b;kind x on param;kind g=@x@o.a;class A@g{field f@g;method m(p@g)@g{read;ret;}}class B:A{}");
        int[] places = {0, 1, 20, 21};
        for (int place : places) {
            d.is("x at " + place, d.whence(place, 0), place + " 0 1 0");
            d.is("o at " + place, d.whence(place, 100), place + " 0 1 0");
        }
        d.is("x does not pass on", d.x.effective(100, 0), 0);
        d.is("an ORDER passes on, at a CLASS too", d.whence(100, 100), "0 1 1 0");
        d.is("a CLASS has no MARK of an ORDER", d.x.markOf(0, 0), -1);
    }

    private static void placeAbove() {
        String about = "those of the PLACE ABOVE: of a CLASS its PARENT; of a METHOD the METHOD of its NAME in the nearest of PARENT, that one's PARENT"
                + " and so on that has one, if it has as many PARAMETERS; of a PARAMETER that one's; FIELDS have none";
        Due d = Due.with(about, "order o:a<b;kind h heirs;kind n;"
                + "class A@h@n{field f@h@o.a;method m(x@h,y@o.a)@h@o.a{read;ret;}method z()@h{read;ret;}}"
                + "class B:A{field f;method z(p){read;ret;}}"
                + "class C:B{field f;method m(u,v){read;ret;}method z(){read;ret;}}"
                + "class D:C{method m(y,x){read;ret;}method k(){read;ret;}}"
                + "class E{method m(x,y){read;ret;}}");
        d.is("a CLASS", d.whence(100, 0), "0 1 0 0");
        d.is("two above", d.whence(200, 0), "0 2 0 0");
        d.is("not heirs", d.x.effective(100, 1), 0);
        d.is("FIELDS have none", d.x.effective(101, 0), 0);
        d.is("FIELDS have none", d.x.effective(101, 100), 0);
        d.is("the nearest that has one is a step", d.whence(220, 0), "20 1 0 0");
        d.is("and its ORDER", d.whence(220, 100), "20 1 0 0");
        d.is("a PARAMETER, by its number", d.whence(221, 0), "21 1 0 0");
        d.is("a PARAMETER, by its number", d.whence(222, 100), "22 1 0 0");
        d.is("the other has none", d.x.effective(222, 0), 0);
        d.is("the other has none", d.x.effective(221, 100), 0);
        d.is("a METHOD's two above", d.whence(320, 0), "20 2 0 0");
        d.is("a PARAMETER's two above", d.whence(321, 0), "21 2 0 0");
        d.is("z of B has one PARAMETER more", d.x.effective(120, 0), 0);
        d.is("z of C: the nearest has one more, and no one above it is asked", d.x.effective(230, 0), 0);
        d.is("no METHOD of the NAME", d.x.effective(330, 0), 0);
        d.is("no PARENT", d.x.effective(420, 0), 0);
        Due eight = Due.with("FIELDS have none: not the METHODS' ahead either", "order o:a<b;class A{" + Due.times(8, "method #(p@o.a,q@o.a,r@o.a,s@o.a)@o.a{read;ret;}")
                + "}class B:A{" + Due.times(8, "field #;") + "}");
        for (int field = 101; field <= 108; field++) {
            eight.is("FIELD " + field, eight.x.effective(field, 100), 0);
        }
        d.is("no PARENT", d.x.effective(400, 0), 0);
    }

    private static void stepsAbove() {
        StringBuilder text = new StringBuilder("order o:a<b;kind h heirs;class A@h{method m(p@o.a){read;ret;}}");
        for (char c = 'B'; c <= 'L'; c++) {
            text.append("class ").append(c).append(":").append((char) (c - 1)).append("{method m(p){read;ret;}}");
        }
        Due d = Due.with("1: how many steps above", text.toString());
        for (int c = 0; c < 12; c++) {
            d.is("CLASS " + c, d.whence(100 * c, 0), "0 " + c + " 0 0");
            d.is("PARAMETER of " + c, d.whence(100 * c + 21, 100), "21 " + c + " 0 0");
            d.is("METHOD of " + c, d.x.effective(100 * c + 20, 100), 0);
        }
    }

    private static void clash() {
        String about = "GIVEN ones CLASH, if another one of the OWN MARKS at the PLACE that GIVES, GIVES one of which a MEMBER has another VALUE"
                + " (or that has another ELEMENT)";
        Due d = Due.with(about, "order o:a<b;kind x(n:int=1,s:text='d')heirs;kind p=@x@o.a;kind q=@x(n=1,s='d')@o.b;kind r=@x(n=2);kind s=@x(s='');"
                + "kind t=@p;kind e;class A{}class B:A{}");
        Object[][] files = {{1, "p", 0}, {2, "p", 0, "q", 0}, {2, "p", 0, "r", 0}, {2, "p", 0, "s", 0}, {3, "e", 0, "p", 0, "t", 0},
            {3, "p", 0, "q", 0, "r", 0}, {2, "p", 0, "r", NO}, {3, "p", 0, "r", 0, "r", 0}, {2, "r", 0, "p", 0}, {2, "t", 0, "s", 0}};
        int[] kinds = {0, 0, 1, 1, 0, 1, 0, 0, 1, 1};
        int[] orders = {0, 1, 0, 0, 0, 1, 0, 0, 0, 0};
        for (int k = 0; k < files.length; k++) {
            d.is("give", d.give(0, files[k]), (Integer) files[k][0]);
            d.is("x of " + k, d.whence(0, 0), "0 0 1 " + kinds[k]);
            d.is("o of " + k, d.whence(0, 100), "0 0 1 " + orders[k]);
            d.is("x of " + k + " as an heir has it", d.whence(100, 0), "0 1 1 " + kinds[k]);
        }
        d.is("give", d.give(0, 2, "r", 0, "s", 0), 2);
        d.is("give", d.give(100, 1, "r", 0), 1);
        d.is("those at that PLACE alone", d.whence(100, 0), "100 0 1 0");
        d.is("those at this PLACE", d.whence(0, 0), "0 0 1 1");
        d.is("give", d.give(100, 3, "r", 0, "s", 0, "x", 0), 3);
        d.is("OWN ones do not CLASH", d.whence(100, 0), "100 0 0 0");
    }

    private static void makersEffective() {
        Due d = Due.with("each MAKER, for each CLASS that had an EFFECTIVE MARK of its KIND when the ROUND began",
                "kind h heirs;kind g=@h;kind x;maker m:h adds @x;class A@g{}class B:A{}class C:B@no h{}class D:C{}class E@h{}class F{field f@h;}");
        d.is("rounds", d.x.rounds(), 1);
        int[] sizes = {2, 1, 1, 0, 2, 0};
        for (int c = 0; c < 6; c++) {
            d.is("CLASS " + c, d.x.size(10, 100 * c), sizes[c]);
        }
        d.is("FIELDS have none made", d.x.size(10, 501), 1);
        // What comes in a ROUND counts in the next one, whichever MAKER is ahead.
        for (String makers : new String[] {"maker m:a adds @b;maker n:b adds @c;maker o:c adds @e;", "maker o:c adds @e;maker n:b adds @c;maker m:a adds @b;"}) {
            Due row = Due.with("when the ROUND began", "kind a;kind b;kind c;kind e;" + makers + "class A@a{}");
            row.is("rounds", row.x.rounds(), 3);
            row.is("a, b, c, e", row.mark(0, 1) + row.mark(0, 2) + row.mark(0, 3), "1 1 0 02 1 0 03 1 0 0");
        }
    }

    private static void makersByNow() {
        String about = "of its MARKS each, of whose NAME none is among the CLASS's OWN MARKS by now (also with no), comes behind them";
        Due d = Due.with(about, "kind a heirs;kind b(n:int=0)many;kind c;maker m:a adds @b(n=1)@c@b(n=2);maker n:a adds @c@b(n=3);"
                + "class A@a{}class B@b(n=7)@a{}class C@a@no b{}class D@no c@a{}class E{}");
        d.is("rounds", d.x.rounds(), 1);
        d.is("A: b once, and c", d.x.size(10, 0), 3);
        d.is("the first b", d.ask(0, 1, 0, 0), "1 1");
        d.is("one", d.x.effective(0, 1), 1);
        d.is("c behind it", d.mark(0, 2), "2 1 0 0");
        d.is("B: its own b, and c", d.x.size(10, 100), 3);
        d.is("its own", d.ask(100, 1, 0, 0), "1 7");
        d.is("C: no b", d.x.size(10, 200), 3);
        d.is("c", d.mark(200, 2), "2 1 0 0");
        d.is("D: no c", d.x.size(10, 300), 3);
        d.is("b", d.mark(300, 2), "1 1 0 1");
        d.is("E", d.x.size(10, 400), 0);
        // Also of a MARK that does not COUNT.
        d.is("give", d.give(400, 3, "a", 0, "c", 0, "c", 0), 3);
        d.is("rounds", d.x.rounds(), 1);
        d.is("b alone comes", d.x.size(10, 400), 4);
        d.is("b", d.mark(400, 3), "1 1 0 1");
    }

    private static void fewerThan20() {
        String about = "if there are fewer than 20";
        for (int count = 17; count <= 20; count++) {
            Due d = Due.with(about, "kind a many;kind b;kind c;maker m:a adds @b@c;class A{}class B{}");
            d.is("give", d.give(0, Due.marks(count, "a", 0)), count);
            d.is("give", d.give(100, 1, "a", 0), 1);
            d.is("rounds", d.x.rounds(), 1);
            d.is("at most 20", d.x.size(10, 0), Math.min(count + 2, 20));
            d.is("b", d.x.effective(0, 1), count < 20 ? 1 : 0);
            d.is("c", d.x.effective(0, 2), count < 19 ? 1 : 0);
            d.is("B has both", d.x.size(10, 100), 3);
            d.is("rounds again", d.x.rounds(), 0);
        }
        Due full = Due.with(about, "kind a many;kind b;maker m:a adds @b;class A{}");
        full.is("give", full.give(0, Due.marks(20, "a", 0)), 20);
        full.is("nothing comes", full.x.rounds(), 0);
    }

    private static void roundsGoOn() {
        String about = "ROUNDS go on till one in which nothing comes, which is none";
        Due none = Due.with(about, "kind a;kind b;maker m:a adds @b;class A{}");
        none.is("nothing comes", none.x.rounds(), 0);
        Due noMaker = Due.with(about, "class A{}");
        noMaker.is("no MAKER", noMaker.x.rounds(), 0);
        // Six MAKERS, each of which waits for the one behind it, and a PARENT's MARK that the heirs have later.
        Due six = Due.with(about, "kind a;kind b;kind c;kind d;kind e;kind f;kind g;maker M:f adds @g;maker N:e adds @f;maker O:d adds @e;"
                + "maker P:c adds @d;maker Q:b adds @c;maker R:a adds @b;class A@a{}");
        six.is("six", six.x.rounds(), 6);
        six.is("all came", six.x.size(10, 0), 7);
        six.is("none more", six.x.rounds(), 0);
        Due heirs = Due.with(about, "kind a;kind h heirs;kind c;maker M:h adds @c;maker N:a adds @h;class B@a{}class A:B{}");
        heirs.is("two", heirs.x.rounds(), 2);
        heirs.is("the heir has c", heirs.x.size(10, 100), 1);
    }
}
