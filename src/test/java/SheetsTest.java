/** Promises 40 to 46: spots and sheets. */
public final class SheetsTest {
    private static final Due due = new Due();

    public static void main(String[] args) {
        hold();
        as();
        sheet();
        write();
        copy();
        copyWithinOne();
        copyFindings();
        load();
        judge();
        due.end();
    }

    private static void hold() {
        MarkCurves x = new MarkCurves();
        due.is("hold(0, 0) without curves", x.hold(0, 0), Due.BEYOND);
        due.is("hold(0, -1)", x.hold(0, -1), 1);
        x.curve(0, 0);
        due.is("hold(-1, 0)", x.hold(-1, 0), Due.BEYOND);
        due.is("hold(10, 0)", x.hold(10, 0), Due.BEYOND);
        due.is("hold(0, 1)", x.hold(0, 1), Due.BEYOND);
        due.is("hold(0, -2)", x.hold(0, -2), Due.BEYOND);
        due.is("hold(9, 0)", x.hold(9, 0), 1);
        due.is("hold(0, 0)", x.hold(0, 0), 1);
        due.is("two hold something", x.count(5), 2);
        due.is("hold(9, -1)", x.hold(9, -1), 1);
        due.is("one holds something", x.count(5), 1);
        due.is("spot 9 holds nothing", x.as(9, 0), Due.MISSING);
        due.is("spot 0 holds curve 0", x.as(0, 0), 0);
    }

    private static void as() {
        String[] under = {"0", "01", "02", "023", "04", "015", "06"};
        for (int kind = 0; kind <= 6; kind++) {
            MarkCurves x = new MarkCurves();
            x.curve(0, 0);
            x.curve(kind, 0);
            x.hold(4, 1);
            for (int wanted = 0; wanted <= 6; wanted++) {
                boolean is = under[kind].indexOf('0' + wanted) >= 0;
                due.is("kind " + kind + " as " + wanted, x.as(4, wanted), is ? 1 : Due.KIND);
            }
            due.is("as(4, 7)", x.as(4, 7), Due.BEYOND);
            due.is("as(4, -1)", x.as(4, -1), Due.BEYOND);
            due.is("as(10, 0)", x.as(10, 0), Due.BEYOND);
            due.is("as(-1, 0)", x.as(-1, 0), Due.BEYOND);
            due.is("as(3, 7)", x.as(3, 7), Due.BEYOND);
            due.is("as(3, 0)", x.as(3, 0), Due.MISSING);
            x.turn(1, 3);
            due.is("turned, as stretched", x.as(4, 2), 1);
        }
    }

    private static void sheet() {
        MarkCurves x = new MarkCurves();
        due.is("sheet(0, 8, 40)", x.sheet(0, 8, 40), 40);
        due.is("sheet(3, 16, 0)", x.sheet(3, 16, 0), 0);
        due.is("sheet(1, 32, 1)", x.sheet(1, 32, 1), 1);
        due.is("sheet(4, 8, 1)", x.sheet(4, 8, 1), Due.BEYOND);
        due.is("sheet(-1, 8, 1)", x.sheet(-1, 8, 1), Due.BEYOND);
        due.is("sheet(0, 9, -1)", x.sheet(0, 9, -1), Due.BEYOND);
        due.is("sheet(0, -8, 1)", x.sheet(0, -8, 1), Due.BEYOND);
        due.is("sheet(0, 64, 1)", x.sheet(0, 64, 1), Due.BEYOND);
        due.is("sheet(0, 8, -1)", x.sheet(0, 8, -1), Due.SIZE);
        due.is("sheet(0, 0, -1)", x.sheet(0, 0, -1), Due.SIZE);
        due.is("sheet(0, 8, 41)", x.sheet(0, 8, 41), Due.BEYOND);
        due.is("sheet(0, 0, 41)", x.sheet(0, 0, 41), Due.BEYOND);
        due.is("it stays", x.write(0, 39, 1), 1);
        due.is("an empty one is not missing", x.write(3, 0, 0), Due.BEYOND);
        due.is("sheet(0, 0, 5)", x.sheet(0, 0, 5), 0);
        due.is("it is missing", x.write(0, 0, 0), Due.MISSING);
    }

    private static int numberAt(MarkCurves x, int s, int at, int bits) {
        x.sheet(3, bits, 1);
        x.copy(s, at, 3, 0, 1);
        int curve = x.count(1) - 1;
        return x.judge(3, curve);
    }

    private static void write() {
        MarkCurves x = new MarkCurves();
        x.curve(0, 0);
        x.pupil(0);
        x.worth(0, 40);
        x.point(0, 0, 0, 40);
        x.point(0, 0, 1, 40);
        int[] bits = {8, 16, 32};
        for (int b : bits) {
            x.sheet(0, b, 2);
            due.is("write(0, 2, 1)", x.write(0, 2, 1), Due.BEYOND);
            due.is("write(0, -1, 1)", x.write(0, -1, 1), Due.BEYOND);
            due.is("write(0, 1, 40)", x.write(0, 1, 40), 1);
            due.is("number 0 is 0 still", numberAt(x, 0, 0, b), 1);
            due.is("number 1 is 40", numberAt(x, 0, 1, b), 0);
            x.write(0, 0, 0x12340028);
            due.is("lowest bits alone of " + b, numberAt(x, 0, 0, b), b == 32 ? 1 : 0);
            x.write(0, 0, 0x00000128);
            due.is("lowest 8 bits of " + b, numberAt(x, 0, 0, b), b == 8 ? 0 : 1);
            x.sheet(0, b, 2);
            due.is("all 0 again", numberAt(x, 0, 1, b), 1);
        }
        due.is("write(-1, 0, 0)", x.write(-1, 0, 0), Due.BEYOND);
        due.is("write(4, 0, 0)", x.write(4, 0, 0), Due.BEYOND);
        due.is("write(2, 99, 0)", x.write(2, 99, 0), Due.MISSING);
        signs(x);
    }

    /** A number with its sign is no mark and no points, though its bits alone would be. */
    private static void signs(MarkCurves x) {
        x.worth(1, 40);
        for (int q = 0; q < 8; q++) {
            x.worth(q, 40);
            x.point(0, q, 0, 40);
            x.point(0, q, 1, 40);
        }
        due.is("raw", x.pupilOf(0, 1), 320);
        x.sheet(0, 16, 1);
        x.write(0, 0, 320);
        due.is("320 in 16 bits", x.judge(0, 0), 0);
        x.sheet(0, 8, 1);
        x.write(0, 0, 320);
        due.is("320 in 8 bits is 64", x.judge(0, 0), 1);
        x.worth(0, 4);
        for (int q = 1; q < 4; q++) {
            x.worth(q, 0);
        }
        due.is("raw then", x.pupilOf(0, 1), 164);
        x.write(0, 0, 164);
        due.is("164 in 8 bits is -92", x.judge(0, 0), 1);
        x.sheet(0, 16, 1);
        x.write(0, 0, 65536 + 164);
        due.is("164 in 16 bits", x.judge(0, 0), 0);
        x.sheet(0, 32, 1);
        x.write(0, 0, 65536 + 164);
        due.is("not in 32 bits", x.judge(0, 0), 1);
        x.write(0, 0, 164);
        due.is("but so", x.judge(0, 0), 0);
    }

    /** What a sheet holds, seen through load: points of pupil 0 by marker 0. */
    private static void holds(MarkCurves x, int s, int... want) {
        due.is("numbers of sheet " + s, x.load(s, 0, 0), want.length);
        for (int q = 0; q < want.length; q++) {
            due.is("number " + q + " of sheet " + s, x.point(0, q, 0, want[q]), want[q]);
        }
    }

    private static MarkCurves twoSheets() {
        MarkCurves x = new MarkCurves();
        x.pupil(0);
        x.sheet(0, 8, 6);
        x.sheet(1, 8, 5);
        for (int i = 0; i < 6; i++) {
            x.write(0, i, i + 1);
        }
        return x;
    }

    private static void copy() {
        MarkCurves x = twoSheets();
        due.is("copy(0, 2, 1, 1, 3)", x.copy(0, 2, 1, 1, 3), 3);
        holds(x, 1, 0, 3, 4, 5, 0);
        holds(x, 0, 1, 2, 3, 4, 5, 6);
        due.is("copy(0, 0, 1, 0, 0)", x.copy(0, 0, 1, 0, 0), 0);
        due.is("copy(0, 6, 1, 5, 0)", x.copy(0, 6, 1, 5, 0), 0);
        due.is("copy(0, 1, 1, 0, 5)", x.copy(0, 1, 1, 0, 5), 5);
        holds(x, 1, 2, 3, 4, 5, 6);
        x.write(0, 1, 9);
        holds(x, 1, 2, 3, 4, 5, 6);
    }

    private static void copyWithinOne() {
        MarkCurves x = twoSheets();
        due.is("copy up", x.copy(0, 0, 0, 2, 4), 4);
        holds(x, 0, 1, 2, 1, 2, 3, 4);
        due.is("copy down", x.copy(0, 1, 0, 0, 5), 5);
        holds(x, 0, 2, 1, 2, 3, 4, 4);
    }

    private static void copyFindings() {
        MarkCurves x = twoSheets();
        x.sheet(2, 16, 5);
        due.is("no such sheet", x.copy(4, 0, 3, 0, -1), Due.BEYOND);
        due.is("no such sheet -1", x.copy(-1, 0, 0, 0, 1), Due.BEYOND);
        due.is("no such other sheet", x.copy(3, 0, 4, 0, 1), Due.BEYOND);
        due.is("no such other sheet -1", x.copy(0, 0, -1, 0, 1), Due.BEYOND);
        due.is("the first is missing", x.copy(3, 0, 2, 0, -1), Due.MISSING);
        due.is("the other is missing", x.copy(0, 0, 3, 0, -1), Due.MISSING);
        due.is("of other bits", x.copy(0, 0, 2, 0, -1), Due.KIND);
        due.is("n below 0", x.copy(0, 0, 1, 0, -1), Due.BEYOND);
        due.is("from below 0", x.copy(0, -1, 1, 0, 1), Due.BEYOND);
        due.is("to below 0", x.copy(0, 0, 1, -1, 1), Due.BEYOND);
        due.is("the first hasn't so many", x.copy(0, 4, 1, 0, 3), Due.BEYOND);
        due.is("the other hasn't so many", x.copy(0, 0, 1, 0, 6), Due.BEYOND);
        due.is("none from beyond the end", x.copy(0, 7, 1, 0, 0), Due.BEYOND);
        due.is("wild n", x.copy(0, 1, 1, 1, Integer.MAX_VALUE), Due.BEYOND);
        due.is("wild from", x.copy(0, Integer.MAX_VALUE, 1, 0, 1), Due.BEYOND);
        due.is("wild to", x.copy(0, 0, 1, Integer.MAX_VALUE, Integer.MAX_VALUE), Due.BEYOND);
        due.is("wilder n", x.copy(0, 0, 1, 0, Integer.MIN_VALUE), Due.BEYOND);
        holds(x, 1, 0, 0, 0, 0, 0);
    }

    private static void load() {
        MarkCurves x = twoSheets();
        x.pupil(0);
        due.is("load(4, 0, 0)", x.load(4, 0, 0), Due.BEYOND);
        due.is("load(-1, 0, 0)", x.load(-1, 0, 0), Due.BEYOND);
        due.is("load(3, 9, 9)", x.load(3, 9, 9), Due.MISSING);
        due.is("load(0, 2, 0)", x.load(0, 2, 0), Due.BEYOND);
        due.is("load(0, -1, 0)", x.load(0, -1, 0), Due.BEYOND);
        due.is("load(0, 0, 2)", x.load(0, 0, 2), Due.BEYOND);
        due.is("load(0, 0, -1)", x.load(0, 0, -1), Due.BEYOND);
        x.worth(3, 3);
        due.is("it ends above worth", x.load(0, 1, 1), 3);
        due.is("what came", x.point(1, 2, 1, 3), 3);
        due.is("what did not", x.point(1, 3, 1, 0), 0);
        due.is("nor behind it", x.point(1, 4, 1, 0), 0);
        due.is("the other marker", x.point(1, 2, 0, 0), 0);
        due.is("the other pupil", x.pupilOf(0, 1), 0);
        x.write(0, 1, -1);
        due.is("it ends below 0", x.load(0, 0, 0), 1);
        x.sheet(2, 32, 9);
        due.is("it ends behind the last question", x.load(2, 1, 1), 8);
        due.is("all 0", x.pupilOf(1, 1), 0);
        x.sheet(2, 32, 0);
        due.is("nothing came", x.load(2, 1, 1), 0);
    }

    private static void judge() {
        MarkCurves x = Due.fourPupils();
        x.curve(0, 0);
        x.sheet(1, 8, 4);
        due.is("judge(4, 0)", x.judge(4, 0), Due.BEYOND);
        due.is("judge(-1, 0)", x.judge(-1, 0), Due.BEYOND);
        due.is("judge(0, 9)", x.judge(0, 9), Due.MISSING);
        due.is("judge(1, 1)", x.judge(1, 1), Due.BEYOND);
        due.is("judge(1, -1)", x.judge(1, -1), Due.BEYOND);
        due.is("the first is wrong", x.judge(1, 0), 1);
        x.write(1, 0, 30);
        due.is("the second is wrong", x.judge(1, 0), 2);
        x.write(1, 2, 20);
        due.is("right ones behind don't count", x.judge(1, 0), 2);
        x.write(1, 1, 5);
        due.is("all are right", x.judge(1, 0), 0);
        x.pupil(0);
        due.is("one is not told", x.judge(1, 0), 5);
        x.drop();
        x.drop();
        due.is("one is too many", x.judge(1, 0), 4);
        x.sheet(1, 8, 0);
        due.is("nothing of three", x.judge(1, 0), 1);
        x.drop();
        x.drop();
        x.drop();
        due.is("nothing of nobody", x.judge(1, 0), 0);
        x.sheet(1, 8, 1);
        due.is("one of nobody", x.judge(1, 0), 1);
    }
}
