/** Promises 1 to 4: a new object, feed, end, out. */
public final class TapeTest {
    public static void main(String[] args) {
        newObject();
        tape();
        cutShort();
        fullTape();
        out();
        Due.close();
    }

    private static void newObject() {
        Due d = new Due("a new object");
        d.is("NONE", MarkHouse.NONE, -1);
        d.is("out(0)", d.x.out(0), -1);
        d.is("fault(0)", d.x.fault(0), 0);
        d.is("fault(1)", d.x.fault(1), 0);
        d.is("tell()", d.x.tell(), -1);
        for (int what = -1; what <= 11; what++) {
            d.is("size", d.x.size(what, 0), -1);
        }
        d.is("order", d.x.order(0, 0, 0, 0), -1);
        d.is("mark", d.x.mark(0, 0, 0), -1);
        d.is("give", d.x.give(0), -1);
        d.is("file", d.x.file(0), -1);
        d.is("effective", d.x.effective(0, 0), -1);
        d.is("whence", d.x.whence(0, 0, 0), -1);
        d.is("ask", d.x.ask(0, 0, 0, 0), -1);
        d.is("markOf", d.x.markOf(1, 0), -1);
        d.is("rounds", d.x.rounds(), -1);
        d.is("flow", d.x.flow(0), -1);
        d.is("error", d.x.error(0, 0), -1);
        d.is("way", d.x.way(0), -1);
        d.is("step", d.x.step(0), -1);
        d.is("state", d.x.state(20, 0, 0), -1);
        d.is("find", d.x.find(0), -1);
        d.is("plain", d.x.plain(0), false);
        d.is("weave", d.x.weave(), -1);
        d.is("code", d.x.code(20, true), -1);
        d.is("begin", d.begin(20, false), Due.ILLEGAL_STATE);
        d.is("go", d.go(1), Due.ILLEGAL_STATE);
        d.is("run", d.tallies(), "0 0 0 0 0 0 0 -1 -1 -1 0 0");
        d.is("truth", d.x.truth(0), -1);
        d.is("wire", d.x.wire(), -1);
        d.is("wired", d.x.wired(0), -1);
        d.is("wired", d.x.wired(2), -1);
    }

    private static void tape() {
        Due d = new Due("the tape");
        d.is("feed", d.x.feed(0x636c6173, 0x7320417b, 0x7d202020, 0x20202020, 0x20202020), 20);
        d.is("feed", d.x.feed(0, -1, 0, 0, 0), 40);
        d.is("end(41)", d.x.end(41), -1);
        d.is("end(-1)", d.x.end(-1), -1);
        d.is("end(40)", d.x.end(40), 40);
        d.is("end(9)", d.x.end(9), 9);
        d.is("end(10)", d.x.end(10), -1);
        d.is("compile", d.compile(), Due.NOTHING);
        d.is("end(1) on an empty tape", d.x.end(1), -1);
        d.is("end(0)", d.x.end(0), 0);
        d.is("compile of nothing", d.compile(), Due.ILLEGAL_ARGUMENT);
    }

    /** What end() takes away is no part of the text, whatever it was. */
    private static void cutShort() {
        String[] texts = {"class A{}|x", "class A|   ", "class A|B{}", "class A{field f=1|2;}", "kind k(s:text='a|b');class A{}",
            "kind k(s:text='a|');class A{}"};
        int[] kinds = {0, 2, 2, 2, 1, 1};
        int[] places = {0, 7, 7, 17, 14, 14};
        for (int k = 0; k < texts.length; k++) {
            Due d = new Due(texts[k]);
            d.feed(texts[k].replace("|", ""));
            d.is("end", d.x.end(texts[k].indexOf('|')), texts[k].indexOf('|'));
            d.is("compile", d.compile(), kinds[k] == 0 ? Due.NOTHING : Due.ILLEGAL_ARGUMENT);
            d.is("fault(0)", d.x.fault(0), kinds[k]);
            d.is("fault(1)", d.x.fault(1), places[k]);
        }
    }

    private static void fullTape() {
        Due d = new Due("a full tape");
        for (int k = 1; k <= 200; k++) {
            d.is("feed", d.x.feed(0, 0, 0, 0, 0), 20 * k);
        }
        d.is("feed beyond", d.x.feed(0, 0, 0, 0, 0), -1);
        d.is("end(3981)", d.x.end(3981), 3981);
        d.is("feed beyond", d.x.feed(0, 0, 0, 0, 0), -1);
        d.is("end(3980)", d.x.end(3980), 3980);
        d.is("feed", d.x.feed(0, 0, 0, 0, 0), 4000);
    }

    private static void out() {
        Due d = Due.with("the out", "kind k(n:int); class A @k(n=-1){}");
        d.is("file", d.x.file(0), 11);
        d.is("out(3)", d.x.out(3), 1);
        d.is("a high byte", d.x.out(10), 255);
        d.is("out(11)", d.x.out(11), -1);
        d.is("out(-1)", d.x.out(-1), -1);
        d.is("file of no PLACE", d.x.file(1), -1);
        d.is("which leaves THE OUT", d.x.out(3), 1);
        d.is("what is written is new", d.x.ask(0, 0, 0, 0), 1);
        d.is("the out", d.out(), "-1");

        more();
    }

    /** FILES of large numbers make a program that is told in more than 8000 bytes. */
    private static void more() {
        Due d = Due.with("more than 8000", "kind k(n:int)many;class A{" + fields() + "}class B{" + fields() + "}class C{field f;}");
        byte[] file = new byte[201];
        file[0] = 20;
        for (int k = 0; k < 20; k++) {
            byte[] mark = {1, 'k', 1, 1, 'n', 1, -128, 0, 0, 0};
            System.arraycopy(mark, 0, file, 1 + 10 * k, 10);
        }
        giveAt(d, file, 1, 2, 3, 4, 5, 6, 7, 8, 101, 102, 103, 104, 105, 106);
        int length = d.x.tell();
        d.is("tell", length < 8000, true);
        d.is("nothing behind", d.x.out(length), -1);
        giveAt(d, file, 107, 108, 201);
        d.is("tell", d.x.tell(), 8000);
        d.is("out(7999)", d.x.out(7999) >= 0, true);
        d.is("out(8000)", d.x.out(8000), -1);
    }

    private static void giveAt(Due d, byte[] file, int... places) {
        for (int place : places) {
            d.feed(file);
            d.is("give", d.x.give(place), 20);
        }
    }

    private static String fields() {
        StringBuilder text = new StringBuilder();
        for (char name = 'a'; name < 'i'; name++) {
            text.append("field ").append(name).append(";");
        }
        return text.toString();
    }
}
