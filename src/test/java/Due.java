import java.util.NoSuchElementException;

/** What the tests of the project share: a house, calls in plain form, and a tally of wrong answers. */
final class Due {
    static final String ILLEGAL_ARGUMENT = "IllegalArgumentException";
    static final String ILLEGAL_STATE = "IllegalStateException";
    static final String NO_SUCH = "NoSuchElementException";
    static final String NOTHING = "nothing";

    private static int wrong = 0;
    private static int asked = 0;

    final MarkHouse x = new MarkHouse();
    private final String about;

    Due(String about) {
        this.about = about;
    }

    /** A house in which the program stands. */
    static Due with(String about, String program) {
        Due due = new Due(about);
        due.feed(program);
        due.is("compile", due.compile(), NOTHING);
        return due;
    }

    void is(String call, long got, long want) {
        asked++;
        if (got != want) {
            wrong++;
            System.out.println(about + ": " + call + " answered " + got + ", due is " + want);
        }
    }

    void is(String call, String got, String want) {
        asked++;
        if (!got.equals(want)) {
            wrong++;
            System.out.println(about + ": " + call + " answered [" + got + "], due is [" + want + "]");
        }
    }

    void is(String call, boolean got, boolean want) {
        is(call, got ? 1 : 0, want ? 1 : 0);
    }

    /** Puts these bytes alone on THE TAPE. */
    void feed(byte[] bytes) {
        x.end(0);
        for (int i = 0; i < bytes.length; i += 20) {
            x.feed(four(bytes, i), four(bytes, i + 4), four(bytes, i + 8), four(bytes, i + 12), four(bytes, i + 16));
        }
        is("end", x.end(bytes.length), bytes.length);
    }

    void feed(String text) {
        byte[] bytes = new byte[text.length()];
        for (int i = 0; i < bytes.length; i++) {
            bytes[i] = (byte) text.charAt(i);
        }
        feed(bytes);
    }

    private static int four(byte[] bytes, int from) {
        int word = 0;
        for (int i = from; i < from + 4; i++) {
            word = word << 8 | (i < bytes.length ? bytes[i] & 255 : 0);
        }
        return word;
    }

    /** The name of what compile() throws, or nothing. */
    String compile() {
        try {
            x.compile();
            return NOTHING;
        } catch (IllegalArgumentException e) {
            return ILLEGAL_ARGUMENT;
        }
    }

    String begin(int place, boolean woven) {
        try {
            x.begin(place, woven);
            return NOTHING;
        } catch (IllegalStateException e) {
            return ILLEGAL_STATE;
        } catch (NoSuchElementException e) {
            return NO_SUCH;
        }
    }

    /** What go(n) answers or throws. */
    String go(int n) {
        try {
            return Integer.toString(x.go(n));
        } catch (IllegalArgumentException e) {
            return ILLEGAL_ARGUMENT;
        } catch (IllegalStateException e) {
            return ILLEGAL_STATE;
        }
    }

    /** THE OUT as a text. */
    String out() {
        StringBuilder text = new StringBuilder();
        int b = x.out(0);
        for (int i = 1; b >= 0; i++) {
            text.append((char) b);
            b = x.out(i);
        }
        return text.toString();
    }

    /** All of a run's tallies, 0 to 11, with blanks between. */
    String tallies() {
        StringBuilder text = new StringBuilder();
        for (int what = 0; what <= 11; what++) {
            text.append(what == 0 ? "" : " ").append(x.run(what));
        }
        return text.toString();
    }

    /** All of an ERROR, 0 to 4, with blanks between. */
    String error(int i) {
        StringBuilder text = new StringBuilder();
        for (int what = 0; what <= 4; what++) {
            text.append(what == 0 ? "" : " ").append(x.error(i, what));
        }
        return text.toString();
    }

    /** The steps of the latest way(), with blanks between. */
    String steps() {
        StringBuilder text = new StringBuilder();
        for (int k = 0; x.step(k) >= 0; k++) {
            text.append(k == 0 ? "" : " ").append(x.step(k));
        }
        return text.toString();
    }

    /** The numbers and NAMES of a FILE (a NAME or text has its length ahead) as bytes. */
    static byte[] bytes(Object... parts) {
        StringBuilder all = new StringBuilder();
        for (Object part : parts) {
            if (part instanceof String) {
                String name = (String) part;
                all.append((char) name.length()).append(name);
            } else {
                all.append((char) (((Number) part).intValue() & 255));
            }
        }
        byte[] result = new byte[all.length()];
        for (int i = 0; i < result.length; i++) {
            result[i] = (byte) all.charAt(i);
        }
        return result;
    }

    /** What give() answers to a FILE of these parts. */
    int give(int place, Object... parts) {
        feed(bytes(parts));
        return x.give(place);
    }

    /** n times the parts, with their number ahead: a FILE of n like MARKS. */
    static Object[] marks(int n, Object... parts) {
        Object[] all = new Object[1 + n * parts.length];
        all[0] = n;
        for (int k = 0; k < n; k++) {
            System.arraycopy(parts, 0, all, 1 + k * parts.length, parts.length);
        }
        return all;
    }

    /** All that mark() tells of an OWN MARK, with blanks between. */
    String mark(int place, int i) {
        return x.mark(place, i, 0) + " " + x.mark(place, i, 1) + " " + x.mark(place, i, 2) + " " + x.mark(place, i, 3);
    }

    /** All that whence() tells of EFFECTIVE MARKS, with blanks between. */
    String whence(int place, int kind) {
        return x.whence(place, kind, 0) + " " + x.whence(place, kind, 1) + " " + x.whence(place, kind, 2) + " "
                + x.whence(place, kind, 3);
    }

    /** What ask() answers, and what it writes if it writes. */
    String ask(int place, int kind, int i, int member) {
        int answer = x.ask(place, kind, i, member);
        return answer > 0 ? answer + " " + out() : Integer.toString(answer);
    }

    /** The text n times; # in it is another NAME each time: A, B and so on. */
    static String times(int n, String text) {
        StringBuilder all = new StringBuilder();
        for (int k = 0; k < n; k++) {
            all.append(text.replace("#", k < 26 ? Character.toString((char) ('A' + k)) : "N" + k));
        }
        return all.toString();
    }

    /** The text has this FAULT, at the place behind the ^ that stands in it. */
    static void fault(String about, int kind, String text) {
        int place = text.indexOf('^');
        faultAt(about, kind, place, text.substring(0, place) + text.substring(place + 1));
    }

    static void faultAt(String about, int kind, int place, String text) {
        Due d = new Due(about + " [" + cut(text) + "]");
        d.feed(text);
        d.is("compile", d.compile(), ILLEGAL_ARGUMENT);
        d.is("fault(0)", d.x.fault(0), kind);
        d.is("fault(1)", d.x.fault(1), place);
        d.is("no program: size", d.x.size(3, 0), -1);
        d.is("no program: tell", d.x.tell(), -1);
    }

    /** The text is a program of so many CLASSES. */
    static Due right(String about, String text, int classes) {
        Due d = new Due(about + " [" + cut(text) + "]");
        d.feed(text);
        int got = -1;
        try {
            got = d.x.compile();
        } catch (IllegalArgumentException e) {
            d.is("fault", d.x.fault(0) + " at " + d.x.fault(1), "none");
        }
        d.is("compile", got, classes);
        d.is("fault(0)", d.x.fault(0), 0);
        d.is("fault(1)", d.x.fault(1), 0);
        return d;
    }

    private static String cut(String text) {
        return text.length() > 300 ? text.substring(0, 300) + ".." : text;
    }

    /** Ends a test: exit code 1 if an answer was wrong. */
    static void close() {
        System.out.println(asked + " answers, " + wrong + " wrong");
        if (wrong > 0 || asked == 0) {
            System.exit(1);
        }
    }
}
