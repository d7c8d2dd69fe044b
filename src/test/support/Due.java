/** Compares answers with those that are due, and ends a test with exit code 1 if one was not. */
final class Due {
    static final int BEYOND = -1000001;
    static final int FULL = -1000002;
    static final int KIND = -1000003;
    static final int NONE = -1000004;
    static final int STATE = -1000005;
    static final int MISSING = -1000006;
    static final int SIZE = -1000007;

    private int asked = 0;
    private int wrong = 0;

    void is(String call, int got, int want) {
        asked++;
        if (got != want) {
            wrong++;
            System.out.println(call + " answered " + got + ", due is " + want);
        }
    }

    void that(String what, boolean holds) {
        is(what, holds ? 1 : 0, 1);
    }

    void end() {
        System.out.println(asked + " answers asked, " + wrong + " not as due");
        if (wrong != 0 || asked == 0) {
            System.exit(1);
        }
    }

    /** Puts a text of signs 0 to 255 on the tape, byte by byte. */
    static void feed(MarkCurves x, String text) {
        for (int i = 0; i < text.length(); i++) {
            x.feed(text.charAt(i), 1);
        }
    }

    static int read(MarkCurves x, String text) {
        feed(x, text);
        return x.text();
    }

    /** All WORTHS are 40: the greatest RAW is 320. */
    static MarkCurves widePaper() {
        MarkCurves x = new MarkCurves();
        for (int q = 0; q < 8; q++) {
            x.worth(q, 40);
        }
        return x;
    }

    /** New pupils of class 0 on a wide paper, with as much RAW as told. */
    static MarkCurves withRaws(int... raws) {
        MarkCurves x = widePaper();
        for (int raw : raws) {
            addPupil(x, raw);
        }
        return x;
    }

    /** A new pupil with so much RAW, in QUESTIONS 0, 1, .. as far as it needs them, of WORTH 40. */
    static int addPupil(MarkCurves x, int raw) {
        int p = x.pupil(0);
        for (int q = 0; 40 * q < raw; q++) {
            score(x, p, q, Math.min(40, raw - 40 * q));
        }
        return p;
    }

    /** Both MARKERS give the same points. */
    static void score(MarkCurves x, int pupil, int question, int v) {
        x.point(pupil, question, 0, v);
        x.point(pupil, question, 1, v);
    }

    /**
     * Four pupils with 30, 5, 20 and 0 raw of 80; of classes 0, 1, 0, 2.
     * Scores: 10 10 10; 5; 0 10 0 10; none.
     */
    static MarkCurves fourPupils() {
        MarkCurves x = new MarkCurves();
        read(x, "pupil 0 10 10 10;pupil 1 5;pupil 0 0 10 0 10;pupil 2");
        return x;
    }

    /** Asked of pupils 0, 1, .. one by one. */
    static void marksAre(Due due, MarkCurves x, int curve, int... want) {
        for (int p = 0; p < want.length; p++) {
            due.is("mark(" + curve + ", " + p + ")", x.mark(curve, p), want[p]);
        }
    }
}
