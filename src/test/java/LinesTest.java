/** Promises 25 to 30: lines, heaps, the kindest curve, letters. */
public final class LinesTest {
    private static final Due due = new Due();

    public static void main(String[] args) {
        pass();
        line();
        heap();
        kindest();
        byFor();
        letters();
        due.end();
    }

    private static void pass() {
        MarkCurves x = Due.fourPupils();
        x.curve(0, 0);
        due.is("pass(0, 0)", x.pass(0, 0), 15);
        due.is("pass(0, 1)", x.pass(0, 1), 7);
        due.is("pass(0, 20)", x.pass(0, 20), 5);
        due.is("pass(0, 21)", x.pass(0, 21), 1);
        due.is("pass(0, 400)", x.pass(0, 400), 0);
        due.is("pass(0, 401)", x.pass(0, 401), Due.BEYOND);
        due.is("pass(0, -1)", x.pass(0, -1), Due.BEYOND);
        due.is("pass(1, 0)", x.pass(1, 0), Due.BEYOND);
        due.is("pass(-1, 0)", x.pass(-1, 0), Due.BEYOND);
    }

    private static void line() {
        MarkCurves x = Due.fourPupils();
        x.curve(0, 0);
        int[] lines = {400, 30, 20, 5, 0};
        for (int n = 0; n < lines.length; n++) {
            due.is("line(0, " + n + ")", x.line(0, n), lines[n]);
        }
        due.is("line(0, 5)", x.line(0, 5), Due.NONE);
        due.is("line(0, 12)", x.line(0, 12), Due.NONE);
        due.is("line(0, 13)", x.line(0, 13), Due.BEYOND);
        due.is("line(0, -1)", x.line(0, -1), Due.BEYOND);
        due.is("line(1, 5)", x.line(1, 5), Due.BEYOND);
        due.is("line(-1, 0)", x.line(-1, 0), Due.BEYOND);
        x.turn(0, 1);
        x.by(0, 60);
        int[] ofHeaps = {400, 80, 80, 65, 60};
        for (int n = 0; n < ofHeaps.length; n++) {
            due.is("line of like marks, " + n, x.line(0, n), ofHeaps[n]);
        }
    }

    private static void heap() {
        MarkCurves x = new MarkCurves();
        Due.read(x, "curve;question 0 worth 40");
        int[] raws = {30, 31, 32, 33, 29, 28, 27, 26, 30};
        for (int p = 0; p < raws.length; p++) {
            x.pupil(0);
            x.point(p, 0, 0, raws[p]);
            x.point(p, 0, 1, raws[p]);
        }
        due.is("heap at 30", x.heap(0, 30), 4 - 3);
        due.is("heap at 33", x.heap(0, 33), 1 - 4);
        due.is("heap at 34", x.heap(0, 34), -3);
        due.is("heap at 24", x.heap(0, 24), 1);
        due.is("heap at 23", x.heap(0, 23), 0);
        due.is("heap at 36", x.heap(0, 36), -1);
        due.is("heap at 37", x.heap(0, 37), 0);
        due.is("heap(0, 0)", x.heap(0, 0), 0);
        due.is("heap(0, 400)", x.heap(0, 400), 0);
        due.is("heap(0, 401)", x.heap(0, 401), Due.BEYOND);
        due.is("heap(0, -1)", x.heap(0, -1), Due.BEYOND);
        due.is("heap(1, 0)", x.heap(1, 0), Due.BEYOND);
        due.is("heap(-1, 0)", x.heap(-1, 0), Due.BEYOND);
        x.pupil(0);
        due.is("a mark at line 0", x.heap(0, 0), 1);
        due.is("and 3 below line 3", x.heap(0, 3), -1);
    }

    private static void kindest() {
        MarkCurves x = Due.fourPupils();
        due.is("no curves", x.kindest(0), Due.NONE);
        due.is("no curves, no line", x.kindest(401), Due.BEYOND);
        Due.read(x, "curve;stretched;bent;added by 60");
        due.is("kindest(0)", x.kindest(0), 0);
        due.is("kindest(16)", x.kindest(16), 3);
        due.is("kindest(66)", x.kindest(66), 1);
        due.is("kindest(67)", x.kindest(67), 2);
        due.is("kindest(400)", x.kindest(400), 0);
        due.is("kindest(-1)", x.kindest(-1), Due.BEYOND);
        due.is("kindest(401)", x.kindest(401), Due.BEYOND);
    }

    private static void byFor() {
        MarkCurves x = Due.fourPupils();
        Due.read(x, "added by 50;shared;curve;dropped");
        due.is("byFor(0, 0)", x.byFor(0, 0), 0);
        due.is("byFor(0, 60)", x.byFor(0, 60), 60);
        due.is("byFor(0, 80)", x.byFor(0, 80), 80);
        due.is("byFor(0, 81)", x.byFor(0, 81), Due.NONE);
        due.is("by stays", x.curveOf(0, 1), 50);
        due.is("byFor(1, 30)", x.byFor(1, 30), 0);
        due.is("byFor(1, 31)", x.byFor(1, 31), 100);
        due.is("byFor(1, 101)", x.byFor(1, 101), Due.NONE);
        due.is("byFor(2, 0)", x.byFor(2, 0), 0);
        due.is("byFor(2, 1)", x.byFor(2, 1), Due.NONE);
        due.is("byFor(0, 401)", x.byFor(0, 401), Due.BEYOND);
        due.is("byFor(0, -1)", x.byFor(0, -1), Due.BEYOND);
        due.is("byFor(4, 0)", x.byFor(4, 0), Due.BEYOND);
        due.is("byFor(-1, 0)", x.byFor(-1, 0), Due.BEYOND);
        x.drop();
        due.is("dropped 0 leaves pupil 1 nothing", x.byFor(3, 1), 1);
    }

    private static void letters() {
        MarkCurves x = Due.fourPupils();
        x.curve(0, 0);
        due.is("letters(0, 5, 20)", x.letters(0, 5, 20), 2);
        due.is("letters(0, 6, 19)", x.letters(0, 6, 19), 0);
        due.is("letters(0, 0, 400)", x.letters(0, 0, 400), 4);
        due.is("letters(0, 30, 30)", x.letters(0, 30, 30), 1);
        due.is("letters(0, 31, 30)", x.letters(0, 31, 30), Due.BEYOND);
        due.is("letters(0, -1, 30)", x.letters(0, -1, 30), Due.BEYOND);
        due.is("letters(0, 0, 401)", x.letters(0, 0, 401), Due.BEYOND);
        due.is("letters(0, 401, 401)", x.letters(0, 401, 401), Due.BEYOND);
        due.is("letters(0, -2, -1)", x.letters(0, -2, -1), Due.BEYOND);
        due.is("letters(1, 0, 0)", x.letters(1, 0, 0), Due.BEYOND);
        due.is("letters(-1, 0, 0)", x.letters(-1, 0, 0), Due.BEYOND);
    }
}
