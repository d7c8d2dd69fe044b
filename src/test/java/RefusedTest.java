/**
 * Each argument of each act: every value that is taken, the first that isn't at both ends, and ints
 * beyond every bound. A refused call counts one BEYOND and changes nothing else.
 */
public final class RefusedTest {
    private static final int LEAST = Integer.MIN_VALUE;
    private static final int GREATEST = Integer.MAX_VALUE;
    private static final int PUPILS = 5;
    private static final int CURVES = 3;

    private static final Due due = new Due();
    private static final Twins some = new Twins(due, States.SOME);

    public static void main(String[] args) {
        paper();
        curves();
        asksOfCurves();
        lines();
        letters();
        markers();
        spots();
        sheets();
        sheetOfOtherBits();
        sheetOfWildSize();
        copies();
        counts();
        due.end();
    }

    /** Of the arguments, all of which are taken, the one with this number is taken from least to most. */
    private static void bounds(int least, int most, int number, String act, int... args) {
        for (int v = least; v <= most; v++) {
            some.take(act, with(args, number, v));
        }
        int[] wild = {least - 1, most + 1, LEAST, LEAST + 1, LEAST + least + 2, LEAST + most, -1000001, -65536,
            -256, -129, least + 256, least + 65536, least + (1 << 30), GREATEST - 40, GREATEST - 1, GREATEST};
        for (int v : wild) {
            if (v < least || v > most) {
                some.refuse(Due.BEYOND, act, with(args, number, v));
            }
        }
    }

    private static int[] with(int[] args, int number, int v) {
        int[] changed = args.clone();
        changed[number] = v;
        return changed;
    }

    private static void question(int number, String act, int... args) {
        bounds(0, 7, number, act, args);
    }

    private static void pupil(int number, String act, int... args) {
        bounds(0, PUPILS - 1, number, act, args);
    }

    private static void marker(int number, String act, int... args) {
        bounds(0, 1, number, act, args);
    }

    private static void curve(int number, String act, int... args) {
        bounds(0, CURVES - 1, number, act, args);
    }

    private static void line(int number, String act, int... args) {
        bounds(0, 400, number, act, args);
    }

    private static void paper() {
        question(0, "worth", 3, 7);
        bounds(0, 40, 1, "worth", 3, 7);
        question(0, "common", 3, 50);
        bounds(-1, 400, 1, "common", 3, 50);
        bounds(0, 3, 0, "pupil", 1);
        pupil(0, "point", 2, 3, 1, 4);
        question(1, "point", 2, 3, 1, 3);
        marker(2, "point", 2, 3, 1, 4);
        bounds(0, 12, 3, "point", 2, 3, 1, 4);
        bounds(0, 3, 3, "point", 2, 5, 0, 1);
        pupil(0, "pupilOf", 2, 4);
        bounds(0, 9, 1, "pupilOf", 2, 4);
        bounds(0, 5, 0, "paper", 0);
        pupil(0, "drawn", 2, 1);
        marker(1, "drawn", 2, 1);
    }

    private static void curves() {
        bounds(0, 6, 0, "curve", 3, 40);
        bounds(0, 100, 1, "curve", 3, 40);
        curve(0, "curveOf", 1, 0);
        bounds(0, 1, 1, "curveOf", 1, 0);
        curve(0, "turn", 1, 3);
        bounds(0, 6, 1, "turn", 1, 3);
        curve(0, "by", 1, 30);
        bounds(0, 100, 1, "by", 1, 30);
        curve(0, "mark", 1, 2);
        pupil(1, "mark", 1, 2);
        curve(0, "place", 1, 2);
        pupil(1, "place", 1, 2);
        curve(0, "sum", 1, 0);
        bounds(-1, 3, 1, "sum", 1, 0);
        curve(0, "middle", 1);
    }

    private static void asksOfCurves() {
        curve(0, "keeps", 1);
        curve(0, "breaks", 1);
        curve(0, "heaped", 1);
        curve(0, "gains", 1);
        curve(0, "gainsBy", 1, 2);
        pupil(1, "gainsBy", 1, 2);
        curve(0, "moves", 1, 20);
        bounds(0, 40, 1, "moves", 1, 20);
        curve(0, "without", 1, 3);
        question(1, "without", 1, 3);
    }

    private static void lines() {
        curve(0, "pass", 1, 30);
        line(1, "pass", 1, 30);
        curve(0, "line", 1, 2);
        bounds(0, 12, 1, "line", 1, 2);
        curve(0, "heap", 1, 30);
        line(1, "heap", 1, 30);
        line(0, "kindest", 30);
        curve(0, "byFor", 1, 30);
        line(1, "byFor", 1, 30);
    }

    /** (a) goes up to (b), and (b) down to (a). */
    private static void letters() {
        curve(0, "letters", 1, 30, 60);
        bounds(0, 60, 1, "letters", 1, 30, 60);
        bounds(30, 400, 2, "letters", 1, 30, 60);
        bounds(0, 400, 1, "letters", 1, 30, 400);
        bounds(0, 400, 2, "letters", 1, 0, 60);
        some.refuse(Due.BEYOND, "letters", 1, LEAST, GREATEST);
        some.refuse(Due.BEYOND, "letters", 1, GREATEST, LEAST);
        some.refuse(Due.BEYOND, "letters", 1, 401, 401);
        some.refuse(Due.BEYOND, "letters", 1, -1, -1);
        some.refuse(Due.BEYOND, "letters", 1, -1, 401);
    }

    private static void markers() {
        bounds(1, 40, 0, "right", 3);
        bounds(0, 1, 0, "unlike", 0);
        question(0, "counts", 3);
        bounds(1, 4, 1, "feed", 'x', 2);
    }

    private static void spots() {
        bounds(0, 9, 0, "hold", 4, 1);
        bounds(-1, CURVES - 1, 1, "hold", 4, 1);
        bounds(0, 9, 0, "as", 3, 0);
        bounds(0, 6, 1, "as", 3, 0);
    }

    private static void sheets() {
        bounds(0, 3, 0, "sheet", 1, 16, 5);
        bounds(0, 3, 0, "write", 1, 5, 7);
        bounds(0, 9, 1, "write", 1, 5, 7);
        bounds(0, 39, 1, "write", 2, 5, 7);
        bounds(0, 3, 0, "load", 1, 2, 1);
        pupil(1, "load", 1, 2, 1);
        marker(2, "load", 1, 2, 1);
        bounds(0, 3, 0, "judge", 1, 2);
        curve(1, "judge", 1, 2);
    }

    private static void sheetOfOtherBits() {
        for (int bits : new int[] {0, 8, 16, 32}) {
            some.take("sheet", 1, bits, 5);
        }
        int[] wild = {LEAST, LEAST + 8, -1000001, -32, -16, -8, -1, 1, 2, 4, 7, 9, 15, 17, 24, 31, 33, 64, 128,
            256 + 8, 65536 + 8, GREATEST - 8, GREATEST};
        for (int bits : wild) {
            some.refuse(Due.BEYOND, "sheet", 1, bits, 5);
        }
    }

    private static void sheetOfWildSize() {
        for (int bits : new int[] {0, 8, 16, 32}) {
            for (int n = 0; n <= 40; n++) {
                some.take("sheet", 1, bits, n);
            }
            for (int n : new int[] {41, 42, 255, 256, 65536, GREATEST - 1, GREATEST}) {
                some.refuse(Due.BEYOND, "sheet", 1, bits, n);
            }
            for (int n : new int[] {-1, -2, -40, -256, -1000001, LEAST + 1, LEAST}) {
                some.refuse(Due.SIZE, "sheet", 1, bits, n);
            }
        }
    }

    /** From sheet 0 with 10 numbers to sheet 2 with 40, and within sheet 0. */
    private static void copies() {
        bounds(0, 6, 1, "copy", 0, 1, 2, 3, 4);
        bounds(0, 3, 2, "copy", 0, 1, 2, 3, 4);
        bounds(0, 36, 3, "copy", 0, 1, 2, 3, 4);
        bounds(0, 9, 4, "copy", 0, 1, 2, 3, 4);
        bounds(0, 10, 4, "copy", 2, 7, 0, 0, 10);
        bounds(0, 3, 4, "copy", 2, 37, 2, 0, 3);
        bounds(0, 10, 4, "copy", 0, 0, 0, 0, 10);
        bounds(0, 3, 0, "copy", 0, 1, 2, 3, 4);
        some.refuse(Due.BEYOND, "copy", 0, GREATEST, 2, GREATEST, GREATEST);
        some.refuse(Due.BEYOND, "copy", 0, LEAST, 2, LEAST, LEAST);
        some.refuse(Due.BEYOND, "copy", 0, 1, 2, 1, GREATEST);
        some.refuse(Due.BEYOND, "copy", 0, GREATEST, 2, 0, 1);
        some.refuse(Due.BEYOND, "copy", 0, 0, 2, GREATEST, 1);
    }

    private static void counts() {
        bounds(0, 5, 0, "count", 0);
        bounds(-1, 6, 0, "status", 0);
    }
}
