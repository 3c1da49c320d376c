/** What the tests share: telling answers that are not due, and putting a text on the tape. */
final class Due {
    private int asked = 0;
    private int wrong = 0;

    void is(String call, long got, long want) {
        asked++;
        if (got != want) {
            wrong++;
            if (wrong <= 40) {
                System.out.println(call + " answered " + got + ", due is " + want);
            }
        }
    }

    void that(String what, boolean stands) {
        is(what, stands ? 1 : 0, 1);
    }

    boolean hasWrong() {
        return wrong > 0;
    }

    /** An exception that nobody catches ends the test with exit code 1; Mutants catches it. */
    void finish() {
        System.out.println(asked + " answers looked at, " + wrong + " not as due");
        if (wrong > 0) {
            throw new Failed(wrong);
        }
    }

    static final class Failed extends RuntimeException {
        private static final long serialVersionUID = 1L;

        Failed(int wrong) {
            super(wrong + " answers are not as due", null, false, false);
        }
    }

    void latest(String what, UsedUp x, int a, int b, int c, int d) {
        is(what + ": its a", x.ask(0), a);
        is(what + ": its b", x.ask(1), b);
        is(what + ": its c", x.ask(2), c);
        is(what + ": its d", x.ask(3), d);
    }

    void good(String text) {
        UsedUp x = new UsedUp();
        that("program of " + text, program(x, text) >= 0);
        is("status of " + text, x.status(), 0);
        is("fault of " + text, x.fault(), -1);
    }

    void faultAt(String text, int place) {
        UsedUp x = new UsedUp();
        is("program of " + text, program(x, text), -6);
        is("status of " + text, x.status(), -6);
        is("fault of " + text, x.fault(), place);
    }

    /** The numbers that feed() takes for a text, five for each twenty bytes of it, blanks behind. */
    static int[] rows(String text) {
        int count = (text.length() + 19) / 20 * 5;
        int[] rows = new int[count];
        for (int i = 0; i < count * 4; i++) {
            int code = i < text.length() ? text.charAt(i) & 255 : ' ';
            rows[i / 4] = rows[i / 4] << 8 | code;
        }
        return rows;
    }

    static void tape(UsedUp x, String text) {
        int[] r = rows(text);
        x.end(0);
        for (int i = 0; i < r.length; i += 5) {
            x.feed(r[i], r[i + 1], r[i + 2], r[i + 3], r[i + 4]);
        }
        x.end(text.length());
    }

    static int program(UsedUp x, String text) {
        tape(x, text);
        return x.program();
    }

    static UsedUp with(String text) {
        UsedUp x = new UsedUp();
        if (program(x, text) < 0) {
            throw new IllegalStateException("a test's text can't be: " + text + " at " + x.fault());
        }
        return x;
    }
}
