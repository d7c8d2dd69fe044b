/** Promises 10 to 17: curves, their marks, places, sums and middles. */
public final class CurvesTest {
    private static final Due due = new Due();

    public static void main(String[] args) {
        curve();
        curveOfTurnBy();
        marksOfEachKind();
        marksOfShared();
        marksOfLinked();
        marksOfDropped();
        marksOfLittle();
        marksOfNothing();
        wrongMarks();
        place();
        sum();
        middle();
        due.end();
    }

    private static void curve() {
        MarkCurves x = new MarkCurves();
        due.is("curve(-1, 0)", x.curve(-1, 0), Due.BEYOND);
        due.is("curve(7, 0)", x.curve(7, 0), Due.BEYOND);
        due.is("curve(0, -1)", x.curve(0, -1), Due.BEYOND);
        due.is("curve(0, 101)", x.curve(0, 101), Due.BEYOND);
        for (int c = 0; c < 6; c++) {
            due.is("curve " + c, x.curve(c + 1, 100), c);
        }
        due.is("a 7th curve", x.curve(0, 0), Due.FULL);
        due.is("a 7th curve of no kind", x.curve(7, 0), Due.BEYOND);
        due.is("curves", x.count(1), 6);
    }

    private static void curveOfTurnBy() {
        MarkCurves x = new MarkCurves();
        due.is("curveOf without curves", x.curveOf(0, 0), Due.BEYOND);
        x.curve(6, 33);
        due.is("kind", x.curveOf(0, 0), 6);
        due.is("by", x.curveOf(0, 1), 33);
        due.is("curveOf(0, 2)", x.curveOf(0, 2), Due.BEYOND);
        due.is("curveOf(0, -1)", x.curveOf(0, -1), Due.BEYOND);
        due.is("curveOf(1, 0)", x.curveOf(1, 0), Due.BEYOND);
        due.is("curveOf(-1, 0)", x.curveOf(-1, 0), Due.BEYOND);
        due.is("turn(0, 7)", x.turn(0, 7), Due.BEYOND);
        due.is("turn(0, -1)", x.turn(0, -1), Due.BEYOND);
        due.is("turn(1, 0)", x.turn(1, 0), Due.BEYOND);
        due.is("turn(-1, 0)", x.turn(-1, 0), Due.BEYOND);
        due.is("turn(0, 4)", x.turn(0, 4), 6);
        due.is("turn to its own kind", x.turn(0, 4), 4);
        due.is("by stays", x.curveOf(0, 1), 33);
        due.is("by(0, 101)", x.by(0, 101), Due.BEYOND);
        due.is("by(0, -1)", x.by(0, -1), Due.BEYOND);
        due.is("by(1, 0)", x.by(1, 0), Due.BEYOND);
        due.is("by(-1, 0)", x.by(-1, 0), Due.BEYOND);
        due.is("by(0, 100)", x.by(0, 100), 33);
        due.is("by(0, 0)", x.by(0, 0), 100);
        due.is("kind stays", x.curveOf(0, 0), 4);
    }

    private static void marksOfEachKind() {
        MarkCurves x = Due.fourPupils();
        Due.read(x, "curve by 50;added by 60;stretched by 50;bent by 50");
        Due.marksAre(due, x, 0, 30, 5, 20, 0);
        Due.marksAre(due, x, 1, 80, 65, 80, 60);
        Due.marksAre(due, x, 2, 100, 16, 66, 0);
        Due.marksAre(due, x, 3, 100, 40, 81, 0);
        x.by(1, 0);
        Due.marksAre(due, x, 1, 30, 5, 20, 0);
    }

    private static void marksOfShared() {
        MarkCurves x = Due.fourPupils();
        x.curve(4, 25);
        Due.marksAre(due, x, 0, 100, 30, 60, 30);
        x.by(0, 24);
        Due.marksAre(due, x, 0, 60, 30, 60, 30);
        x.by(0, 49);
        Due.marksAre(due, x, 0, 100, 30, 60, 30);
        x.by(0, 50);
        Due.marksAre(due, x, 0, 100, 60, 100, 30);
        x.by(0, 51);
        Due.marksAre(due, x, 0, 100, 60, 100, 30);
        x.by(0, 0);
        Due.marksAre(due, x, 0, 60, 30, 60, 30);
        x.by(0, 99);
        Due.marksAre(due, x, 0, 100, 100, 100, 30);
        x.by(0, 100);
        Due.marksAre(due, x, 0, 100, 100, 100, 100);
        x.point(2, 2, 0, 10);
        x.point(2, 2, 1, 10);
        x.by(0, 25);
        Due.marksAre(due, x, 0, 100, 30, 100, 30);
    }

    private static void marksOfLinked() {
        MarkCurves x = Due.fourPupils();
        x.curve(5, 0);
        Due.marksAre(due, x, 0, 30, 5, 20, 0);
        x.common(0, 100);
        x.common(3, 55);
        Due.marksAre(due, x, 0, 39, 14, 29, 9);
        x.common(3, -1);
        x.common(0, 0);
        Due.marksAre(due, x, 0, 27, 2, 17, 0);
        x.common(0, 28);
        Due.marksAre(due, x, 0, 30, 5, 20, 0);
        x.common(0, 27);
        Due.marksAre(due, x, 0, 29, 4, 19, 0);
        for (int q = 0; q < 8; q++) {
            x.common(q, 75);
        }
        Due.marksAre(due, x, 0, 76, 51, 66, 46);
        x.common(0, 400);
        Due.marksAre(due, x, 0, 80, 80, 80, 78);
    }

    private static void marksOfDropped() {
        MarkCurves x = Due.fourPupils();
        x.curve(6, 9);
        Due.marksAre(due, x, 0, 22, 5, 11, 0);
        x.by(0, 100);
        Due.marksAre(due, x, 0, 34, 5, 22, 0);
        x.by(0, 8);
        Due.marksAre(due, x, 0, 22, 0, 22, 0);
        for (int q = 1; q < 8; q++) {
            x.worth(q, 0);
        }
        Due.marksAre(due, x, 0, 0, 0, 0, 0);
    }

    private static void marksOfLittle() {
        MarkCurves x = new MarkCurves();
        Due.read(x, "pupil 0 0 1;pupil 0;stretched;bent;dropped");
        Due.marksAre(due, x, 0, 100, 0);
        Due.marksAre(due, x, 1, 100, 0);
        for (int q = 1; q < 8; q++) {
            x.worth(q, q == 1 ? 1 : 0);
        }
        Due.marksAre(due, x, 2, 11, 0);
    }

    private static void marksOfNothing() {
        MarkCurves x = new MarkCurves();
        x.pupil(0);
        for (int kind = 1; kind <= 6; kind++) {
            x.curve(kind, 10);
        }
        int[] want = {10, 0, 0, 30, 0, 0};
        for (int c = 0; c < 6; c++) {
            Due.marksAre(due, x, c, want[c]);
        }
        for (int q = 0; q < 8; q++) {
            x.worth(q, 0);
        }
        Due.marksAre(due, x, 0, 0);
        Due.marksAre(due, x, 5, 0);
    }

    private static void wrongMarks() {
        MarkCurves x = Due.fourPupils();
        due.is("mark without curves", x.mark(0, 0), Due.BEYOND);
        x.curve(0, 0);
        due.is("mark(-1, 0)", x.mark(-1, 0), Due.BEYOND);
        due.is("mark(1, 0)", x.mark(1, 0), Due.BEYOND);
        due.is("mark(0, -1)", x.mark(0, -1), Due.BEYOND);
        due.is("mark(0, 4)", x.mark(0, 4), Due.BEYOND);
        due.is("place(-1, 0)", x.place(-1, 0), Due.BEYOND);
        due.is("place(1, 0)", x.place(1, 0), Due.BEYOND);
        due.is("place(0, -1)", x.place(0, -1), Due.BEYOND);
        due.is("place(0, 4)", x.place(0, 4), Due.BEYOND);
    }

    private static void place() {
        MarkCurves x = Due.fourPupils();
        x.curve(0, 0);
        x.curve(1, 60);
        int[] plain = {1, 3, 2, 4};
        int[] added = {1, 3, 1, 4};
        for (int p = 0; p < 4; p++) {
            due.is("place(0, " + p + ")", x.place(0, p), plain[p]);
            due.is("place(1, " + p + ")", x.place(1, p), added[p]);
        }
    }

    private static void sum() {
        MarkCurves x = Due.fourPupils();
        x.curve(2, 0);
        due.is("sum of all", x.sum(0, -1), 182);
        due.is("sum of class 0", x.sum(0, 0), 166);
        due.is("sum of class 1", x.sum(0, 1), 16);
        due.is("sum of class 2", x.sum(0, 2), 0);
        due.is("sum of class 3", x.sum(0, 3), 0);
        due.is("sum(0, 4)", x.sum(0, 4), Due.BEYOND);
        due.is("sum(0, -2)", x.sum(0, -2), Due.BEYOND);
        due.is("sum(1, 0)", x.sum(1, 0), Due.BEYOND);
        due.is("sum(-1, 0)", x.sum(-1, 0), Due.BEYOND);
    }

    private static void middle() {
        MarkCurves x = new MarkCurves();
        due.is("middle without curves", x.middle(0), Due.BEYOND);
        x.curve(0, 0);
        due.is("middle of nobody", x.middle(0), Due.NONE);
        due.is("middle(1)", x.middle(1), Due.BEYOND);
        due.is("middle(-1)", x.middle(-1), Due.BEYOND);
        int[] raws = {7, 9, 1, 9, 3, 0};
        int[] middles = {7, 7, 7, 7, 7, 3};
        for (int p = 0; p < raws.length; p++) {
            x.pupil(0);
            x.point(p, 0, 0, raws[p]);
            x.point(p, 0, 1, raws[p]);
            due.is("middle of " + (p + 1), x.middle(0), middles[p]);
        }
        x.by(0, 100);
        x.turn(0, 4);
        due.is("middle of shared", x.middle(0), 100);
    }
}
