/** Compares answers with those that are due, and ends a test with exit code 1 if one was not. */
final class Due {
    static final int BEYOND = -1000001;
    static final int FULL = -1000002;
    static final int KIND = -1000003;
    static final int NONE = -1000004;
    static final int STATE = -1000005;
    static final int MISSING = -1000006;
    static final int SIZE = -1000007;

    private int asked = 0;
    private int wrong = 0;

    void is(String call, int got, int want) {
        asked++;
        if (got != want) {
            wrong++;
            System.out.println(call + " answered " + got + ", due is " + want);
        }
    }

    void that(String what, boolean holds) {
        is(what, holds ? 1 : 0, 1);
    }

    void end() {
        System.out.println(asked + " answers asked, " + wrong + " not as due");
        if (wrong != 0 || asked == 0) {
            System.exit(1);
        }
    }

    /** Puts a text of signs 0 to 255 on the tape, byte by byte. */
    static void feed(MarkCurves x, String text) {
        for (int i = 0; i < text.length(); i++) {
            x.feed(text.charAt(i), 1);
        }
    }

    static int read(MarkCurves x, String text) {
        feed(x, text);
        return x.text();
    }

    /**
     * Four pupils with 30, 5, 20 and 0 raw of 80; of classes 0, 1, 0, 2.
     * Scores: 10 10 10; 5; 0 10 0 10; none.
     */
    static MarkCurves fourPupils() {
        MarkCurves x = new MarkCurves();
        read(x, "pupil 0 10 10 10;pupil 1 5;pupil 0 0 10 0 10;pupil 2");
        return x;
    }

    static void marksAre(Due due, MarkCurves x, int curve, int... want) {
        for (int p = 0; p < want.length; p++) {
            due.is("mark(" + curve + ", " + p + ")", x.mark(curve, p), want[p]);
        }
    }
}
