import java.util.NoSuchElementException;

/**
 * No call may throw by itself or fail to end: odd arguments and broken texts and files in all states, the same ones
 * in each run of the test. Objects are used far beyond their 512 calls.
 */
public final class HostileTest {
    private static final int[] ODD = {0, 1, 2, 3, 4, 5, 8, 9, 11, 12, 15, 16, 19, 20, 21, 24, 25, 30, 90, 94, 95, 99, 100, 101, 103,
        104, 112, 120, 121, 400, 1100, 1194, 1199, 1200, 1201, 10000, -1, -2, -20, -100, Integer.MAX_VALUE, Integer.MIN_VALUE};
    private static final String[] WORDS = {"order", "kind", "class", "field", "method", "param", "maker", "adds", "on", "heirs",
        "many", "no", "int", "text", "push", "read", "load", "store", "get", "set", "call", "ret", "add", "sub", "mul", "dup", "pop",
        "jump", "zero", "is", "as", ":", ";", ",", ".", "=", "<", "(", ")", "{", "}", "@", "-", "'x'", "''", "7", "t", "a", "b", "k",
        "l", "n", "A", "B", "m", "f", "p", "L", "M", "part", "want", "label"};
    private static final String PROGRAM = "order t : a < b , b < c ; order o : x < y ; kind part ( label : text = '' ) heirs ; "
            + "kind want ( of : text = '' , late : int = 0 ) many ; kind k ( n : int = 3 , s : text ) heirs many ; "
            + "kind l = @ k ( s = 'v' ) @ t . b ; maker W : l adds @ k ( s = 'w' ) @ part ; "
            + "class A @ l { field f @ want ( of = 'B' ) @ t . a = 4 ; method m ( p @ t . b , q @ l ) @ o . x { L : load p ; zero M ; "
            + "load q ; push 1 @ t . c ; is t . a N ; N : call A . m ; set A . f ; jump L ; M : get B . f ; as t . a ; ret ; } } "
            + "class B : A @ part { method m ( u , v ) { read @ o . y ; dup ; zero L ; call B . n ; L : ret ; } "
            + "method n ( w ) { load w ; dup ; mul ; store z ; load z ; call A . k ; sub ; ret ; } method k ( ) { push 5 ; ret ; } }";

    private static long seed = 20261116;
    private static int calls = 0;
    private static int bad = 0;

    public static void main(String[] args) {
        for (int house = 0; house < 150; house++) {
            MarkHouse x = new MarkHouse();
            for (int k = 0; k < 1500; k++) {
                call(x, below(40));
            }
        }
        System.out.println(calls + " calls, " + bad + " threw by themselves");
        if (bad > 0) {
            System.exit(1);
        }
    }

    private static int below(int n) {
        seed = seed * 6364136223846793005L + 1442695040888963407L;
        return (int) ((seed >>> 33) % n);
    }

    private static int odd() {
        return below(4) == 0 ? below(1300) - 50 : ODD[below(ODD.length)];
    }

    private static int few() {
        return below(8) == 0 ? odd() : below(4);
    }

    private static int place() {
        int[] places = {0, 1, 20, 21, 22, 100, 120, 121, 130, 131, 140};
        return below(6) == 0 ? odd() : places[below(places.length)];
    }

    private static void feed(MarkHouse x, byte[] bytes) {
        x.end(0);
        for (int i = 0; i < bytes.length; i += 20) {
            int[] w = new int[5];
            for (int j = 0; j < 20; j++) {
                w[j / 4] = w[j / 4] << 8 | (i + j < bytes.length ? bytes[i + j] & 255 : 32);
            }
            x.feed(w[0], w[1], w[2], w[3], w[4]);
        }
        x.end(bytes.length);
    }

    /** The program, with some LEXEMES put in the place of others. */
    private static byte[] text() {
        String[] lexemes = PROGRAM.split(" ");
        int changes = below(3) == 0 ? 0 : below(4);
        for (int k = 0; k < changes; k++) {
            lexemes[below(lexemes.length)] = WORDS[below(WORDS.length)];
        }
        byte[] bytes = String.join(below(3) == 0 ? "\n" : " ", lexemes).getBytes();
        if (below(6) == 0) {
            bytes[below(bytes.length)] = (byte) below(256);
        }
        return bytes;
    }

    private static byte[] file() {
        byte[][] marks = {{1, 'k', 1, 1, 's', 2, 1, 'u'}, {1, 't', 1, 2, 'a', 't', 3, 1, 'c'}, {1, 't', 1, 2, 'a', 't', 2, 0},
            {1, 'l', 0}, {1, 'l', -1}, {4, 'p', 'a', 'r', 't', 0}, {4, 'w', 'a', 'n', 't', 1, 2, 'o', 'f', 2, 1, 'A'},
            {1, 'o', 1, 2, 'a', 't', 3, 1, 'y'}, {1, 'u', 1, 1, 'x', 1, 1, 2, 3, 4}, {1, 'k', 0}};
        int count = below(5) == 0 ? 20 : below(4);
        byte[] all = new byte[400];
        all[0] = (byte) count;
        int length = 1;
        for (int k = 0; k < count; k++) {
            byte[] mark = marks[below(marks.length)];
            System.arraycopy(mark, 0, all, length, mark.length);
            length += mark.length;
        }
        if (below(4) == 0) {
            all[below(length)] = (byte) below(256);
        }
        byte[] bytes = new byte[below(10) == 0 ? below(length) : length];
        System.arraycopy(all, 0, bytes, 0, bytes.length);
        return bytes;
    }

    private static void call(MarkHouse x, int which) {
        calls++;
        try {
            callOne(x, which);
        } catch (IndexOutOfBoundsException | ArithmeticException | ClassCastException | NullPointerException
                | NegativeArraySizeException | ArrayStoreException e) {
            bad++;
            e.printStackTrace(System.out);
        } catch (IllegalArgumentException e) {
            due(which == 0 || which == 28);
        } catch (IllegalStateException e) {
            due(which == 27 || which == 28);
        } catch (NoSuchElementException e) {
            due(which == 27);
        }
    }

    private static void due(boolean may) {
        if (!may) {
            bad++;
            System.out.println("a call threw what it may not throw");
        }
    }

    private static void callOne(MarkHouse x, int which) {
        switch (which) {
            case 0:
                if (below(4) == 0) {
                    feed(x, text());
                    x.compile();
                }
                break;
            case 1: x.feed(odd(), odd(), odd(), odd(), odd()); break;
            case 2: x.end(odd()); break;
            case 3: x.out(odd()); break;
            case 4: x.fault(few()); break;
            case 5: x.tell(); break;
            case 6: x.size(below(13) - 1, below(2) == 0 ? few() : place()); break;
            case 7: x.order(few(), few(), few(), few()); break;
            case 8: x.mark(place(), few(), few()); break;
            case 9:
                feed(x, file());
                x.give(place());
                break;
            case 10: x.file(place()); break;
            case 11: x.effective(place(), below(2) == 0 ? few() : odd()); break;
            case 12: x.whence(place(), below(2) == 0 ? few() : 100 + few(), few()); break;
            case 13: x.ask(place(), below(2) == 0 ? few() : 100 + below(3), few(), few()); break;
            case 14: x.markOf(place(), few()); break;
            case 15: x.rounds(); break;
            case 16: x.flow(few()); break;
            case 17: x.error(few(), few()); break;
            case 18: x.way(few()); break;
            case 19: x.step(odd()); break;
            case 20: x.state(place(), few(), odd()); break;
            case 21: x.find(few()); break;
            case 22: x.plain(few()); break;
            case 23: x.weave(); break;
            case 24: x.code(place(), below(2) == 0); break;
            case 25: x.argument(few(), odd()); break;
            case 26: x.input(odd()); break;
            case 27: x.begin(place(), below(2) == 0); break;
            case 28: x.go(below(3) == 0 ? odd() : 1 + below(300)); break;
            case 29: x.run(below(14) - 1); break;
            case 30: x.truth(few()); break;
            case 31: x.wire(); break;
            case 32: x.wired(few()); break;
            default:
                if (below(30) == 0) {
                    feed(x, text());
                }
                break;
        }
    }
}
