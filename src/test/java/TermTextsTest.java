/**
 * Term 1, TEXTS, up to the FAULTS: each sentence that names a bound, at the bound and on both sides of it. A method
 * here is one sentence, which it gives to its answers as their heading.
 */
public final class TermTextsTest {
    private static final String[] WORDS = ("order kind class field method param maker adds on heirs many no int text push read"
            + " load store get set call ret add sub mul dup pop jump zero is as").split(" ");
    private static final String SIGNS = ":;,.=<(){}@-";

    public static void main(String[] args) {
        tapeOf4000();
        outOf8000();
        longestLexemes();
        whatBeginsLexemes();
        signsOfNames();
        lengthsOfNames();
        lengthsOfNumbers();
        lengthsOfTexts();
        signsOfTexts();
        blanksBetween();
        wordsAreNoNames();
        partsOfAProgram();
        ordersMost();
        kindsMost();
        makersMost();
        classesMost();
        pairsOfOrders();
        elementsMost();
        membersOfKinds();
        sortsOfKinds();
        restOfKinds();
        makersOfMarks();
        parentsOfClasses();
        fieldsMost();
        methodsMost();
        parametersMost();
        actsMost();
        marksMost();
        marksOfKinds();
        marksOfOrders();
        noMarks();
        values();
        labelsOfActs();
        formsOfActs();
        localsMost();
        nearestOwner();
        Due.close();
    }

    private static void fault(String about, int kind, String text) {
        Due.fault(about, kind, text);
    }

    private static Due right(String about, String text) {
        return Due.right(about, text, text.split("class [A-Z]", -1).length - 1);
    }

    private static String times(int n, String text) {
        return Due.times(n, text);
    }

    private static String acts(String acts) {
        return "class Z{method m(){" + acts + "}}";
    }

    private static boolean isLetter(int b) {
        return b >= 'a' && b <= 'z' || b >= 'A' && b <= 'Z';
    }

    private static boolean isDigit(int b) {
        return b >= '0' && b <= '9';
    }

    private static void tapeOf4000() {
        String about = "THE TAPE has at most 4000 bytes";
        Due d = new Due(about);
        for (int k = 1; k <= 199; k++) {
            d.is("feed", d.x.feed(0x20202020, 0x20202020, 0x20202020, 0x20202020, 0x20202020), 20 * k);
        }
        d.is("the 200th", d.x.feed(0x20202020, 0x2020200a, 0x0a20636c, 0x61737320, 0x417b7d20), 4000);
        d.is("the 201st", d.x.feed(0, 0, 0, 0, 0), -1);
        d.is("none of it came", d.x.end(4001), -1);
        d.is("all of it is read", d.compile(), Due.NOTHING);
        d.is("size", d.x.size(3, 0), 1);
        String blanks = " ".repeat(3991);
        right(about, blanks + "class A{}");
        fault(about, 1, blanks + "class A{^#");
        fault(about, 2, blanks + "class A{ ^");
        fault(about, 2, " ".repeat(4000) + "^");
    }

    /** Sixteen FIELDS with 20 MARKS of 25 bytes each are 8000 and more; the last FILE makes the length what is wanted. */
    private static void outOf8000() {
        for (int wanted = 7998; wanted <= 8003; wanted++) {
            Due d = Due.with("THE OUT at most 8000 (what would come beyond is left out): " + wanted,
                    "kind k(n:int)many;class A{" + times(8, "field #;") + "}class B{" + times(8, "field #;") + "}");
            String bare = "kind k ( n : int ) many ; class A {" + times(8, " field # ;") + " } class B {" + times(8, " field # ;") + " }";
            Object[] twenty = Due.marks(20, "k", 1, "n", 1, 128, 0, 0, 0);
            int[] places = {1, 2, 3, 4, 5, 6, 7, 8, 101, 102, 103, 104, 105, 106, 107};
            for (int place : places) {
                d.is("give", d.give(place, twenty), 20);
            }
            int left = wanted - bare.length() - places.length * 20 * " @ k ( n = - 2147483648 )".length();
            d.is("give", d.give(108, numbersOf(left)), left / 20);
            d.is("tell", d.x.tell(), Math.min(wanted, 8000));
            // The text ends in "; }".
            d.is("the last byte", d.x.out(Math.min(wanted, 8000) - 1), "}} ; )".charAt(Math.max(wanted - 7999, 0)));
            d.is("nothing behind it", d.x.out(Math.min(wanted, 8000)), -1);
            d.is("nothing behind it", d.x.out(8000), -1);
        }
    }

    /** A FILE of MARKS that are told in so many bytes: each in 14 and one for each digit behind its first. */
    private static Object[] numbersOf(int length) {
        int count = length / 20;
        Object[] all = Due.marks(count, "k", 1, "n", 1, 0, 0, 0, 5);
        int more = length - 14 * count;
        for (int k = 0; k < count; k++) {
            int value = 5;
            for (int digits = 0; digits < 8 && more > 0; digits++) {
                value *= 10;
                more--;
            }
            for (int j = 0; j < 4; j++) {
                all[8 * k + 8 - j] = value >> 8 * j;
            }
        }
        return all;
    }

    private static void longestLexemes() {
        String about = "LEXEMES, each as long as can be";
        right(about, "class A1b2C3{}");
        right(about, "kind k;class Aclass@k{}");
        fault(about, 2, "^classA{}");
        fault(about, 2, "class A{field f=12^ab;}");
        fault(about, 2, "class A{field f=12^class;}");
        fault(about, 2, "class A{field f=1 ^2;}");
        fault(about, 2, "^cl ass A{}");
        fault(about, 2, "class A ^B{}");
        fault(about, 2, "kind k(s:text='a'^'b');class A{}");
    }

    private static void whatBeginsLexemes() {
        for (int b = 0; b < 256; b++) {
            String about = "1 a sign with which no LEXEME begins: byte " + b;
            String sign = Character.toString((char) b);
            boolean begins = isLetter(b) || isDigit(b) || SIGNS.indexOf(b) >= 0;
            if (b == 32 || b == 10) {
                Due.faultAt(about, 2, 1, sign);
                right(about, "class A{}" + sign);
            } else {
                Due.faultAt(about, begins ? 2 : 1, 0, sign);
                Due.faultAt(about, begins ? 2 : 1, 9, "class A{}" + sign);
            }
        }
    }

    private static void signsOfNames() {
        for (int b = 0; b < 256; b++) {
            String about = "NAMES (a letter a .. z, A .. Z, then letters and digits): byte " + b;
            String text = "class A" + (char) b + "{}";
            if (isLetter(b) || isDigit(b) || b == 32 || b == 10) {
                Due.right(about, text, 1);
            } else if (SIGNS.indexOf(b) >= 0) {
                boolean stands = b == ':' || b == '@' || b == '{';
                Due.faultAt(about, 2, stands ? 8 : 7, text);
            } else {
                Due.faultAt(about, 1, 7, text);
            }
        }
        fault("NAMES begin with a letter", 2, "class ^1A{}");
    }

    private static void lengthsOfNames() {
        String about = "NAMES, at most 8 in all";
        right(about, "class A{}");
        right(about, "class Abcdefg{}");
        Due d = right(about, "class Abcdefg8{}");
        d.x.tell();
        d.is("all signs are kept", d.out(), "class Abcdefg8 { }");
        fault(about, 1, "class ^Abcdefgh9{}");
        fault(about, 1, "class ^" + "A".repeat(100) + "{}");
        // Two that differ in the eighth sign are two.
        right(about, "class Abcdefg8{}class Abcdefg9{}");
        fault(about, 3, "class Abcdefg8{}class ^Abcdefg8{}");
    }

    private static void lengthsOfNumbers() {
        String about = "NUMBERS (1 to 9 digits)";
        String[] numbers = {"0", "9", "99999999", "999999999", "000000001", "000000000"};
        for (String number : numbers) {
            Due d = right(about, "class A{method m(){push " + number + ";ret;}method n(){push -" + number + ";ret;}}");
            d.begin(20, false);
            d.go(9);
            d.is("it is", d.x.run(1), Integer.parseInt(number));
            d.begin(30, false);
            d.go(9);
            d.is("it is below 0", d.x.run(1), -Integer.parseInt(number));
        }
        fault(about, 1, "class A{field f=^1234567890;}");
        fault(about, 1, "class A{field f=^0000000000;}");
        fault(about, 1, "class A{field f=-^1000000000;}");
        fault(about, 1, "class A{field f=^" + "1".repeat(40) + ";}");
    }

    private static void lengthsOfTexts() {
        String about = "TEXTS (', 0 to 8 bytes, and ')";
        String[] texts = {"", "a", "abcdefg", "abcdefgh", "        "};
        for (String text : texts) {
            Due d = right(about, "kind k(s:text='" + text + "');class A@k{}");
            d.is("ask", d.ask(0, 0, 0, 0), "2 " + text);
        }
        fault(about, 1, "kind k(s:text=^'abcdefghi');class A{}");
        fault(about, 1, "kind k(s:text=^'");
        fault(about, 1, "kind k(s:text=^'abcdefgh");
        fault(about, 1, "kind k(s:text=^'abcdefg\n'");
        fault(about, 2, "kind k(s:text='abcdefgh'^");
    }

    private static void signsOfTexts() {
        for (int b = 0; b < 256; b++) {
            String about = "TEXTS have bytes 32 .. 126 but ': byte " + b;
            String text = "kind k(s:text='" + (char) b + "');class A@k{}";
            if (b == '\'') {
                // An empty TEXT, and one behind it that has no end.
                Due.faultAt(about, 1, 16, text);
            } else if (b < 32 || b > 126) {
                Due.faultAt(about, 1, 14, text);
            } else {
                Due d = Due.right(about, text, 1);
                d.is("ask", d.ask(0, 0, 0, 0), "2 " + (char) b);
            }
        }
    }

    private static void blanksBetween() {
        String about = "between them any bytes 32 and 10";
        String[] lexemes = {"order", "o", ":", "a", "<", "b", ";", "kind", "k", "(", "n", ":", "int", "=", "-", "5", ",", "s", ":",
            "text", "=", "'x y'", ")", "on", "class", "heirs", "many", "=", "@", "o", ".", "a", ";", "class", "A", "@", "k", "{", "}"};
        String[] between = {" ", "\n", "  \n\n ", " ".repeat(40)};
        for (String blank : between) {
            Due.right(about, blank + String.join(blank, lexemes) + blank, 1);
        }
        right(about, "order o:a<b;kind k(n:int=-5,s:text='x y')on class heirs many=@o.a;class A@k{}");
        fault(about, 1, "class^\tA{}");
        fault(about, 1, "class^\rA{}");
    }

    private static void wordsAreNoNames() {
        for (String word : WORDS) {
            String about = "WORDS, which are no NAMES";
            fault(about, 2, "class ^" + word + "{}");
            fault(about, 2, "order ^" + word + ":a;class A{}");
            fault(about, 2, "order o:^" + word + ";class A{}");
            fault(about, 2, "kind ^" + word + ";class A{}");
            fault(about, 2, "kind k(^" + word + ":int);class A{}");
            fault(about, 2, "class A{field ^" + word + ";}");
            fault(about, 2, "class A{method ^" + word + "(){read;ret;}}");
            fault(about, 2, "class A{method m(^" + word + "){read;ret;}}");
            fault(about, 2, acts("push 1;store ^" + word + ";"));
            fault(about, 2, acts("jump ^" + word + ";"));
            right("one sign more is a NAME", "class A" + word + "{}");
            right("a capital makes it a NAME", "class " + word.substring(0, 1).toUpperCase() + word.substring(1) + "{}");
            Due.right("a digit makes it a NAME", "class " + word + "1{}", 1);
        }
        for (String name : new String[] {"check", "part", "want", "label", "late", "of", "at", "end", "out"}) {
            Due.right("no WORD", "class " + name + "{}", 1);
        }
    }

    private static void partsOfAProgram() {
        String about = "A PROGRAM: ORDERS, then KINDS, MAKERS, CLASSES";
        String[] parts = {"order o:a;", "kind k;", "maker m:k adds @k;", "class A{}"};
        String[] others = {"order p:a;", "kind l;", "maker n:k adds @k;", "class B{}"};
        right(about, parts[0] + parts[1] + parts[2] + parts[3]);
        right(about, parts[3]);
        right(about, parts[0] + parts[3]);
        right(about, parts[1] + parts[3]);
        for (int later = 1; later < 4; later++) {
            StringBuilder front = new StringBuilder();
            for (int k = 0; k <= later; k++) {
                front.append(parts[k]);
            }
            for (int sooner = 0; sooner < later; sooner++) {
                fault(about, 2, front + "^" + others[sooner]);
            }
        }
    }

    private static void ordersMost() {
        String about = "ORDERS (at most 4)";
        Due none = right(about, "class Z{}");
        none.is("none", none.x.size(0, 0), 0);
        Due d = right(about, times(4, "order #:a;") + "class Z{}");
        d.is("four", d.x.size(0, 0), 4);
        fault(about, 6, times(4, "order #:a;") + "order ^E:a;class Z{}");
    }

    private static void kindsMost() {
        String about = "KINDS (12)";
        Due d = right(about, times(12, "kind #;") + "class Z@L{}");
        d.is("twelve", d.x.size(1, 0), 12);
        d.is("the twelfth counts", d.x.mark(0, 0, 0), 11);
        fault(about, 6, times(12, "kind #;") + "kind ^M;class Z{}");
    }

    private static void makersMost() {
        String about = "MAKERS (6)";
        Due d = right(about, "kind k;" + times(6, "maker #:k adds @k;") + "class Z{}");
        d.is("six", d.x.size(2, 0), 6);
        fault(about, 6, "kind k;" + times(6, "maker #:k adds @k;") + "maker ^G:k adds @k;class Z{}");
    }

    private static void classesMost() {
        String about = "CLASSES (12, at least one)";
        fault(about, 2, "^");
        fault(about, 2, "order o:a;^");
        fault(about, 2, "kind k;^");
        fault(about, 2, "kind k;maker m:k adds @k;^");
        Due one = right(about, "class A{}");
        one.is("one", one.x.size(3, 0), 1);
        Due d = right(about, times(12, "class #{}"));
        d.is("twelve", d.x.size(3, 0), 12);
        d.is("the twelfth is there", d.x.size(10, 1100), 0);
        fault(about, 6, times(12, "class #{}") + "class ^M{}");
    }

    private static void pairsOfOrders() {
        String about = "order NAME : PAIRS ; with , between; a PAIR is an ELEMENT or ELEMENT < ELEMENT";
        fault(about, 2, "order o:^;class A{}");
        fault(about, 2, "order o^;class A{}");
        right(about, "order o:a;class A{}");
        right(about, "order o:a<b;class A{}");
        right(about, "order o:a,a<b,b;class A{}");
        fault(about, 2, "order o:a<b^<c;class A{}");
        fault(about, 2, "order o:a<b,^;class A{}");
        fault(about, 2, "order o:a<b,^,a;class A{}");
        fault(about, 2, "order o:^<b;class A{}");
        fault(about, 2, "order o:a<^,b;class A{}");
        fault(about, 2, "order o:a<b ^class A{}");
        fault(about, 2, "order o:a^.b;class A{}");
    }

    private static void elementsMost() {
        String about = "ELEMENTS are NAMES, at most 12, numbered as they first come";
        String chain = "order t:A<B,B<C,C<D,D<E,E<F,F<G,G<H,H<I,I<J,J<K";
        Due eleven = right(about, chain + ";class Z{}");
        eleven.is("eleven", eleven.x.size(4, 0), 11);
        Due d = right(about, chain + ",K<L,A<L,L,A;class Z{}");
        d.is("twelve", d.x.size(4, 0), 12);
        d.is("the twelfth is TOP", d.x.order(0, 0, 11, 1), 11);
        d.is("no thirteenth", d.x.order(0, 0, 12, 1), -1);
        fault(about, 6, chain + ",K<L,^M;class Z{}");
        fault(about, 6, chain + ",K<L,L<^M;class Z{}");
        fault(about, 6, chain + ",K<L,^M<L;class Z{}");
        // A pair's first ELEMENT has the lower number, whichever is below.
        Due turned = right(about, "order t:b<c,a<b;class Z{}");
        turned.is("b is 0, c is 1", turned.x.order(0, 0, 1, 0), 1);
        turned.is("a is 2", turned.x.order(0, 2, 0, 0), 1);
        Due one = right(about, "order t:a;class Z{}");
        one.is("one", one.x.size(4, 0), 1);
    }

    private static void membersOfKinds() {
        String about = "perhaps ( MEMBERS with , between ) (one at least); at most 4";
        fault(about, 2, "kind k(^);class A{}");
        Due none = right(about, "kind k;class A{}");
        none.is("none", none.x.size(5, 0), 0);
        Due one = right(about, "kind k(a:int);class A{}");
        one.is("one", one.x.size(5, 0), 1);
        Due four = right(about, "kind k(a:int,b:text,c:int=1,d:text='x');class A@k(a=1,b='y'){}");
        four.is("four", four.x.size(5, 0), 4);
        four.is("the fourth", four.ask(0, 0, 0, 3), "2 x");
        four.is("no fifth", four.ask(0, 0, 0, 4), "-1");
        fault(about, 6, "kind k(a:int,b:text,c:int=1,d:text='x',^e:int);class A{}");
        fault(about, 2, "kind k(a:int,^);class A{}");
        fault(about, 2, "kind k(a:int ^b:int);class A{}");
        fault(about, 2, "kind k(a^);class A{}");
        fault(about, 2, "kind k(a:^);class A{}");
        fault(about, 2, "kind k(a:^kind);class A{}");
        fault(about, 2, "kind k(a:int=^);class A{}");
        fault(about, 2, "kind k(a:int=-^);class A{}");
        fault(about, 2, "kind k(a:int=^x);class A{}");
    }

    private static void sortsOfKinds() {
        String about = "perhaps on and one or more of class field method param (where it can stand; everywhere without)";
        String[] sorts = {"class", "field", "method", "param"};
        String[] uses = {"class A@^k{}", "class A{field f@^k;}", "class A{method m()@^k{read;ret;}}", "class A{method m(p@^k){read;ret;}}"};
        for (int on = 0; on < 16; on++) {
            StringBuilder told = new StringBuilder();
            for (int sort = 0; sort < 4; sort++) {
                told.append((on >> sort & 1) != 0 ? " " + sorts[sort] : "");
            }
            String kind = on == 0 ? "kind k;" : "kind k on" + told + ";";
            for (int sort = 0; sort < 4; sort++) {
                if (on == 0 || (on >> sort & 1) != 0) {
                    right(about, kind + uses[sort].replace("^", ""));
                } else {
                    fault(about, 7, kind + uses[sort]);
                }
            }
        }
        fault(about, 2, "kind k on^;class A{}");
        fault(about, 2, "kind k on ^heirs;class A{}");
        fault(about, 2, "kind k on class ^, field;class A{}");
        fault(about, 2, "kind k on class ^maker;class A{}");
        fault(about, 2, "kind k on class ^on field;class A{}");
        fault(about, 2, "kind k ^class;class A{}");
    }

    private static void restOfKinds() {
        String about = "perhaps heirs, perhaps many, perhaps = and MARKS (one at least), ;";
        right(about, "kind k heirs;class A{}");
        right(about, "kind k many;class A{}");
        right(about, "kind k heirs many;class A{}");
        right(about, "kind k;kind l heirs many=@k;class A{}");
        right(about, "kind k;kind l=@k;class A{}");
        fault(about, 2, "kind k many ^heirs;class A{}");
        fault(about, 2, "kind k heirs ^heirs;class A{}");
        fault(about, 2, "kind k many ^many;class A{}");
        fault(about, 2, "kind k heirs ^(a:int);class A{}");
        fault(about, 2, "kind k=^;class A{}");
        fault(about, 2, "kind k=^k;class A{}");
        fault(about, 2, "kind k;kind l=@k ^many;class A{}");
        fault(about, 2, "kind k;kind l=@k ^=@k;class A{}");
        fault(about, 2, "kind k ^class A{}");
    }

    private static void makersOfMarks() {
        String about = "maker NAME : KIND adds MARKS (one at least) ;";
        right(about, "kind k;maker m:k adds @k;class A{}");
        fault(about, 2, "kind k;maker m:k adds^;class A{}");
        fault(about, 2, "kind k;maker m:k^;class A{}");
        fault(about, 2, "kind k;maker m:^adds @k;class A{}");
        fault(about, 2, "kind k;maker m^;class A{}");
        fault(about, 2, "kind k;maker m ^k adds @k;class A{}");
        fault(about, 2, "kind k;maker ^:k adds @k;class A{}");
        fault(about, 2, "kind k;maker m:k adds @k ^class A{}");
    }

    private static void parentsOfClasses() {
        String about = "class NAME, perhaps : CLASS (its PARENT), MARKS, {, FIELDS and METHODS, }";
        right(about, "class A{}class B:A{}class C:B{}class D:A{}");
        fault(about, 2, "class A:^{}");
        fault(about, 2, "class A{}class B:A^:A{}");
        fault(about, 2, "kind k;class A{}class B@k^:A{}");
        fault(about, 2, "class A^;");
        fault(about, 2, "class A{^;}");
        fault(about, 2, "class A{^class B{}}");
        fault(about, 2, "class A{}^;");
        right(about, "class A{field f;method m(){read;ret;}field g;method n(){read;ret;}}");
    }

    private static void fieldsMost() {
        String about = "FIELDS (at most 8)";
        Due none = right(about, "class Z{}");
        none.is("none", none.x.size(6, 0), 0);
        Due d = right(about, "class Z{" + times(8, "field #;") + "}");
        d.is("eight", d.x.size(6, 0), 8);
        d.is("the eighth's PLACE", d.x.size(10, 8), 0);
        d.is("no ninth", d.x.size(10, 9), -1);
        fault(about, 6, "class Z{" + times(8, "field #;") + "field ^I;}");
        right("eight each", "class Z{" + times(8, "field #;") + "}class Y{" + times(8, "field #;") + "}");
    }

    private static void methodsMost() {
        String about = "METHODS (at most 8)";
        Due none = right(about, "class Z{}");
        none.is("none", none.x.size(7, 0), 0);
        Due d = right(about, "class Z{" + times(8, "method #(){read;ret;}") + "}");
        d.is("eight", d.x.size(7, 0), 8);
        d.is("the eighth's PLACE", d.x.size(9, 90), 2);
        fault(about, 6, "class Z{" + times(8, "method #(){read;ret;}") + "method ^I(){read;ret;}}");
        right("eight each", "class Z{" + times(8, "method #(){read;ret;}") + times(8, "field #;") + "}class Y{"
                + times(8, "method #(){read;ret;}") + "}");
    }

    private static void parametersMost() {
        String about = "PARAMETERS with , between, perhaps none (NAME, MARKS; at most 4)";
        Due none = right(about, "class Z{method m(){read;ret;}}");
        none.is("none", none.x.size(8, 20), 0);
        none.is("none", none.x.size(10, 21), -1);
        Due d = right(about, "class Z{method m(a,b,c,d){load d;ret;}}");
        d.is("four", d.x.size(8, 20), 4);
        d.is("the fourth's PLACE", d.x.size(10, 24), 0);
        d.is("no fifth", d.x.size(10, 25), -1);
        fault(about, 6, "class Z{method m(a,b,c,d,^e){load d;ret;}}");
        fault(about, 2, "class Z{method m(^,){load d;ret;}}");
        fault(about, 2, "class Z{method m(a,^){load d;ret;}}");
        fault(about, 2, "class Z{method m(a ^b){load d;ret;}}");
        fault(about, 2, "class Z{method m^{read;ret;}}");
    }

    private static void actsMost() {
        String about = "1 to 40 ACTS";
        fault(about, 2, acts("^"));
        Due one = right(about, acts("L:jump L;"));
        one.is("one", one.x.size(9, 20), 1);
        Due d = right(about, acts(times(19, "push 1;pop;") + "read;ret;"));
        d.is("forty", d.x.size(9, 20), 40);
        d.begin(20, false);
        d.is("all are done", d.go(100), "40");
        fault(about, 6, acts(times(20, "push 1;pop;") + "^ret;"));
        fault(about, 6, acts(times(20, "push 1;pop;") + "^L:ret;"));
        right("forty each", "class Z{method m(){" + times(19, "push 1;pop;") + "read;ret;}method n(){" + times(19, "push 1;pop;") + "read;ret;}}");
    }

    private static void marksMost() {
        String about = "MARKS: any number, at most 20";
        String[] rows = {"class Z#{}", "class Z{field f#;}", "class Z{method m()#{read;ret;}}", "class Z{method m(p,q#){read;ret;}}",
            "kind l=#;class Z{}", "maker m:k adds #;class Z{}"};
        int[] places = {0, 1, 20, 22, -1, -1};
        for (int k = 0; k < rows.length; k++) {
            for (int count = k < 4 ? 0 : 1; count <= 20; count += count < 2 ? 1 : 18) {
                Due d = right(about, "kind k many;" + rows[k].replace("#", times(count, "@k")));
                d.is("so many", places[k] < 0 ? -1 : d.x.size(10, places[k]), places[k] < 0 ? -1 : count);
            }
            fault(about, 6, "kind k many;" + rows[k].replace("#", times(20, "@k") + "^@k"));
        }
        fault(about, 6, "kind k many;class Z" + times(20, "@no k") + "^@no k{}");
        fault(about, 6, "kind k many;kind l;class Z" + times(20, "@k") + "^@l{}");
    }

    private static void marksOfKinds() {
        String about = "@ KIND, perhaps ( MEMBER = VALUE, some with , between )";
        String kind = "kind k(a:int=0,b:text='',c:int=0,d:int=0)many;";
        Due d = right(about, kind + "class A@k@k(a=1)@k(d=1,c=2,b='x',a=3){}");
        d.is("no PAIR", d.mark(0, 0), "0 1 0 0");
        d.is("one", d.mark(0, 1), "0 1 0 1");
        d.is("four", d.mark(0, 2), "0 1 0 4");
        fault(about, 2, kind + "class A@k(^){}");
        fault(about, 2, kind + "class A@k(a^){}");
        fault(about, 2, kind + "class A@k(a=^){}");
        fault(about, 2, kind + "class A@k(a=1^{}");
        fault(about, 2, kind + "class A@k(a=1,^){}");
        fault(about, 2, kind + "class A@k(a=1 ^b='x'){}");
        fault(about, 2, kind + "class A@k(^1){}");
        fault(about, 2, kind + "class A@^(a=1){}");
        fault(about, 2, kind + "class A ^k{}");
        fault(about, 2, kind + "class A@k(a=1)^(b='x'){}");
        fault(about, 3, kind + "class A@k(a=1,b='',c=1,d=1,^a=1){}");
    }

    private static void marksOfOrders() {
        String about = "@ ORDER . ELEMENT";
        String order = "order o:a<b;";
        Due d = right(about, order + "class A{field f@o.b;}");
        d.is("one PAIR: at and the ELEMENT", d.mark(1, 0), "100 1 0 1");
        fault(about, 2, order + "class A{field f@o^;}");
        fault(about, 2, order + "class A{field f@o.^;}");
        fault(about, 2, order + "class A{field f@o^(at=1);}");
        fault(about, 2, order + "class A{field f@o.a^.b;}");
        fault(about, 2, order + "class A{field f@o.a^(a=1);}");
    }

    private static void noMarks() {
        String about = "@ no KIND, @ no ORDER (no no behind =, adds, push, read)";
        String front = "order o:a<b;kind k;";
        right(about, front + "class A@no k{field f@no k@no o;method m(p@no k@no o)@no o@no k{read;ret;}}");
        fault(about, 2, front + "kind l=@^no k;class A{}");
        fault(about, 2, front + "kind l=@^no o;class A{}");
        fault(about, 2, front + "maker m:k adds @^no k;class A{}");
        fault(about, 2, front + acts("push 1@^no o;ret;"));
        fault(about, 2, front + acts("read@^no o;ret;"));
        fault(about, 2, front + "class A@no ^no k{}");
        fault(about, 2, front + "class A@no^{}");
        fault(about, 2, front + "class A{field f@no o^.a;}");
        fault(about, 2, front + "class A@no k^(a=1){}");
    }

    private static void values() {
        String about = "VALUE: of int a NUMBER, perhaps - ahead; of text a TEXT";
        Due d = right(about, "kind k(n:int=-1,s:text='-1');class A@k(n=-999999999){field f=-999999999;method m(){push - 5;ret;}}");
        d.is("n", d.ask(0, 0, 0, 0), "1 -999999999");
        d.is("s", d.ask(0, 0, 0, 1), "2 -1");
        d.begin(20, false);
        d.go(2);
        d.is("push", d.x.run(1), -5);
        String[] ahead = {"class A{field f=", "kind k(n:int=", "kind k(n:int=1);class A@k(n=", "class A{method m(){push "};
        for (String front : ahead) {
            fault(about, 7, front + "^'a'");
            fault(about, 7, front + "^''");
            fault(about, 2, front + "-^-1");
            fault(about, 2, front + "-^'a'");
            fault(about, 2, front + "-^x");
            fault(about, 2, front + "^x");
            fault(about, 2, front + "^;");
            fault(about, 2, front + "^(1)");
            fault(about, 2, front + "^");
            fault(about, 2, front + "-^");
        }
        for (String front : new String[] {"kind k(n:text=", "kind k(n:text='');class A@k(n="}) {
            fault(about, 7, front + "^1");
            fault(about, 7, front + "^-1");
            fault(about, 2, front + "^x");
            fault(about, 2, front + "^)");
            fault(about, 2, front + "^");
        }
    }

    private static void labelsOfActs() {
        String about = "ACT: perhaps NAME : (a LABEL)";
        right(about, acts("L:read;M:ret;"));
        fault(about, 2, acts("L ^read;ret;"));
        fault(about, 2, acts("L:^;ret;"));
        fault(about, 2, acts("L:^}"));
        fault(about, 2, acts("L:^M:read;ret;"));
        fault(about, 2, acts("^:read;ret;"));
        fault(about, 2, acts("^1:read;ret;"));
        fault(about, 2, acts("read;ret;L:^"));
    }

    private static void formsOfActs() {
        String about = "ACT: one of push VALUE of int, MARKS; read MARKS; load LOCAL; .. and ;";
        String front = "order o:a<b;class Y{field f;method n(p){read;ret;}}";
        right(about, front + acts("push 1@o.a;store v;load v;read;read@o.b;add;sub;dup;mul;pop;get Y.f;set Y.f;read;call Y.n;pop;"
                + "L:read;zero L;read;is o.a M;as o.b;M:ret;jump L;"));
        String[] bare = {"ret", "add", "sub", "mul", "dup", "pop", "read"};
        for (String act : bare) {
            fault(about, 2, front + acts(act + " ^1;"));
            fault(about, 2, front + acts(act + " ^x;"));
            fault(about, 2, front + acts(act + "^}"));
        }
        String[] named = {"load", "store", "jump", "zero"};
        for (String act : named) {
            fault(about, 2, front + acts("read;store v;v:" + act + "^;"));
            fault(about, 2, front + acts("read;store v;v:" + act + " ^1;"));
            fault(about, 2, front + acts("read;store v;v:" + act + " v ^v;"));
            fault(about, 2, front + acts("read;store v;v:" + act + " v^.v;"));
        }
        String[] pointed = {"get", "set", "call"};
        for (String act : pointed) {
            fault(about, 2, front + acts(act + "^;"));
            fault(about, 2, front + acts(act + " Y^;"));
            fault(about, 2, front + acts(act + " Y.^;"));
            fault(about, 2, front + acts(act + " Y.f^.f;"));
            fault(about, 2, front + acts(act + " Y.^1;"));
        }
        fault(about, 2, front + acts("push^;"));
        fault(about, 2, front + acts("push 1 ^2;"));
        fault(about, 2, front + acts("is^;"));
        fault(about, 2, front + acts("is o^;"));
        fault(about, 2, front + acts("is o.^;"));
        fault(about, 2, front + acts("is o.a^;"));
        fault(about, 2, front + acts("is o.a L^.M;"));
        fault(about, 2, front + acts("as o.a ^L;"));
        fault(about, 2, front + acts("as o^;"));
        fault(about, 2, front + acts("^class;"));
        fault(about, 2, front + acts("^;"));
        fault(about, 2, front + acts("^@o.a;"));
    }

    private static void localsMost() {
        String about = "LOCALS: the PARAMETERS, then NAMES of stores as they first come, at most 8";
        Due eight = right(about, "order o:x<y;" + acts(times(8, "push 1@o.y;store #;") + "read;ret;"));
        eight.is("flow", eight.x.flow(0), 0);
        eight.is("the eighth", eight.x.state(20, 16, 7), 1);
        eight.is("ahead of its store", eight.x.state(20, 15, 7), 0);
        fault(about, 6, acts(times(8, "read;store #;") + "read;store ^I;read;ret;"));
        right(about, acts(times(8, "read;store #;") + "read;store A;read;store H;load H;ret;"));
        right(about, "class Z{method m(a,b,c,d){" + times(4, "read;store #;") + "read;store a;read;ret;}}");
        fault(about, 6, "class Z{method m(a,b,c,d){" + times(4, "read;store #;") + "read;store ^E;read;ret;}}");
        Due order = right(about, "order o:x<y;class Z{method m(p,q){push 1@o.y;store w;push 1;store v;load q;ret;}}");
        order.is("flow", order.x.flow(0), 0);
        order.is("w is 2", order.x.state(20, 4, 2), 1);
        order.is("v is 3", order.x.state(20, 4, 3), 0);
        order.is("no fifth", order.x.state(20, 4, 4), -1);
        // A LOCAL belongs to its METHOD.
        fault(about, 5, "class Z{method m(){read;store v;read;ret;}method n(){load ^v;ret;}}");
    }

    private static void nearestOwner() {
        String about = "FIELD, METHOD: of that CLASS, or of the nearest of its PARENT, that one's PARENT and so on that has one of the NAME";
        String front = "class A{field f=1;field g=2;method m(){push 10;ret;}method n(){push 20;ret;}}class B:A{field f=3;method m(){push 30;ret;}}"
                + "class C:B{}class D:C{field g=4;}";
        Due d = right(about, front + "class E{method m(){get D.f;ret;}method n(){get D.g;ret;}method o(){get C.g;ret;}method p(){get A.f;ret;}"
                + "method q(){call D.m;ret;}method r(){call D.n;ret;}method s(){call A.m;ret;}}");
        int[] due = {3, 4, 2, 1, 30, 20, 10};
        for (int k = 0; k < due.length; k++) {
            d.begin(420 + 10 * k, false);
            d.go(9);
            d.is("METHOD " + k, d.x.run(1), due[k]);
        }
        fault(about, 5, front + "class E{method m(){get D.^h;ret;}}");
        fault(about, 5, front + "class E{field h;method m(){get D.^h;ret;}}");
        fault(about, 5, front + "class E:D{field h;method m(){get D.^h;ret;}}");
        fault(about, 5, front + "class E{method m(){call D.^f;ret;}}");
        fault(about, 5, front + "class E{method m(){set D.^m;ret;}}");
        // The longest row of PARENTS: the first CLASS's FIELD and METHOD are the twelfth's.
        StringBuilder chain = new StringBuilder("class A{field f=7;method m(){push 8;ret;}}");
        for (char c = 'B'; c < 'L'; c++) {
            chain.append("class ").append(c).append(":").append((char) (c - 1)).append("{}");
        }
        Due far = right(about, chain + "class L:K{method k(){get L.f;call L.m;mul;ret;}}");
        far.begin(1120, false);
        far.go(9);
        far.is("eleven above", far.x.run(1), 56);
    }
}
