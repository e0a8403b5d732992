import java.util.NoSuchElementException;

/** What the tests of the project share: a house, calls in plain form, and a tally of wrong answers. */
final class Due {
    static final String ILLEGAL_ARGUMENT = "IllegalArgumentException";
    static final String ILLEGAL_STATE = "IllegalStateException";
    static final String NO_SUCH = "NoSuchElementException";
    static final String NOTHING = "nothing";

    private static int wrong = 0;
    private static int asked = 0;

    final MarkHouse x = new MarkHouse();
    private final String about;

    Due(String about) {
        this.about = about;
    }

    /** A house in which the program stands. */
    static Due with(String about, String program) {
        Due due = new Due(about);
        due.feed(program);
        due.is("compile", due.compile(), NOTHING);
        return due;
    }

    void is(String call, long got, long want) {
        asked++;
        if (got != want) {
            wrong++;
            System.out.println(about + ": " + call + " answered " + got + ", due is " + want);
        }
    }

    void is(String call, String got, String want) {
        asked++;
        if (!got.equals(want)) {
            wrong++;
            System.out.println(about + ": " + call + " answered [" + got + "], due is [" + want + "]");
        }
    }

    void is(String call, boolean got, boolean want) {
        is(call, got ? 1 : 0, want ? 1 : 0);
    }

    /** Puts these bytes alone on THE TAPE. */
    void feed(byte[] bytes) {
        x.end(0);
        for (int i = 0; i < bytes.length; i += 20) {
            x.feed(four(bytes, i), four(bytes, i + 4), four(bytes, i + 8), four(bytes, i + 12), four(bytes, i + 16));
        }
        is("end", x.end(bytes.length), bytes.length);
    }

    void feed(String text) {
        byte[] bytes = new byte[text.length()];
        for (int i = 0; i < bytes.length; i++) {
            bytes[i] = (byte) text.charAt(i);
        }
        feed(bytes);
    }

    private static int four(byte[] bytes, int from) {
        int word = 0;
        for (int i = from; i < from + 4; i++) {
            word = word << 8 | (i < bytes.length ? bytes[i] & 255 : 0);
        }
        return word;
    }

    /** The name of what compile() throws, or nothing. */
    String compile() {
        try {
            x.compile();
            return NOTHING;
        } catch (IllegalArgumentException e) {
            return ILLEGAL_ARGUMENT;
        }
    }

    String begin(int place, boolean woven) {
        try {
            x.begin(place, woven);
            return NOTHING;
        } catch (IllegalStateException e) {
            return ILLEGAL_STATE;
        } catch (NoSuchElementException e) {
            return NO_SUCH;
        }
    }

    /** What go(n) answers or throws. */
    String go(int n) {
        try {
            return Integer.toString(x.go(n));
        } catch (IllegalArgumentException e) {
            return ILLEGAL_ARGUMENT;
        } catch (IllegalStateException e) {
            return ILLEGAL_STATE;
        }
    }

    /** THE OUT as a text. */
    String out() {
        StringBuilder text = new StringBuilder();
        for (int i = 0; x.out(i) >= 0; i++) {
            text.append((char) x.out(i));
        }
        return text.toString();
    }

    /** All of a run's tallies, 0 to 11, with blanks between. */
    String tallies() {
        StringBuilder text = new StringBuilder();
        for (int what = 0; what <= 11; what++) {
            text.append(what == 0 ? "" : " ").append(x.run(what));
        }
        return text.toString();
    }

    /** All of an ERROR, 0 to 4, with blanks between. */
    String error(int i) {
        StringBuilder text = new StringBuilder();
        for (int what = 0; what <= 4; what++) {
            text.append(what == 0 ? "" : " ").append(x.error(i, what));
        }
        return text.toString();
    }

    /** The steps of the latest way(), with blanks between. */
    String steps() {
        StringBuilder text = new StringBuilder();
        for (int k = 0; x.step(k) >= 0; k++) {
            text.append(k == 0 ? "" : " ").append(x.step(k));
        }
        return text.toString();
    }

    /** Ends a test: exit code 1 if an answer was wrong. */
    static void close() {
        System.out.println(asked + " answers, " + wrong + " wrong");
        if (wrong > 0 || asked == 0) {
            System.exit(1);
        }
    }
}
