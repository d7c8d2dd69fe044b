/** Promises 1 to 9: a new object, the paper and its pupils. */
public final class PaperTest {
    private static final Due due = new Due();

    public static void main(String[] args) {
        newObject();
        worth();
        worthHoldsPoints();
        common();
        pupil();
        point();
        pupilOf();
        paper();
        drawn();
        drop();
        due.end();
    }

    private static void newObject() {
        MarkCurves x = new MarkCurves();
        int[] counts = {0, 0, 0, 0, 1, 0};
        for (int what = 0; what < counts.length; what++) {
            due.is("new: count(" + what + ")", x.count(what), counts[what]);
        }
        for (int which = -1; which <= 6; which++) {
            due.is("new: status(" + which + ")", x.status(which), 0);
        }
        due.is("new: paper(0)", x.paper(0), 80);
        due.is("new: paper(2)", x.paper(2), 0);
        due.is("new: paper(5)", x.paper(5), 0);
        due.is("new: tear()", x.tear(), 0);
        due.is("new: undo()", x.undo(), Due.NONE);
        for (int spot = 0; spot < 10; spot++) {
            due.is("new: as(" + spot + ", 0)", x.as(spot, 0), Due.MISSING);
        }
        for (int s = 0; s < 4; s++) {
            due.is("new: write(" + s + ", 0, 0)", x.write(s, 0, 0), Due.MISSING);
        }
        for (int q = 0; q < 8; q++) {
            due.is("new: worth(" + q + ", 10)", x.worth(q, 10), 10);
            due.is("new: common(" + q + ", -1)", x.common(q, -1), -1);
        }
    }

    private static void worth() {
        MarkCurves x = new MarkCurves();
        due.is("worth(-1, 0)", x.worth(-1, 0), Due.BEYOND);
        due.is("worth(8, 0)", x.worth(8, 0), Due.BEYOND);
        due.is("worth(0, -1)", x.worth(0, -1), Due.BEYOND);
        due.is("worth(0, 41)", x.worth(0, 41), Due.BEYOND);
        due.is("worth(7, 40)", x.worth(7, 40), 10);
        due.is("worth(7, 0)", x.worth(7, 0), 40);
        due.is("worth(7, 3)", x.worth(7, 3), 0);
        due.is("full", x.paper(0), 73);
    }

    private static void worthHoldsPoints() {
        MarkCurves x = new MarkCurves();
        x.pupil(0);
        x.pupil(1);
        x.point(0, 2, 0, 9);
        x.point(0, 2, 1, 4);
        x.point(1, 2, 1, 10);
        x.point(1, 3, 1, 10);
        x.worth(2, 6);
        due.is("points cut to worth", x.point(0, 2, 0, 6), 6);
        due.is("points below worth stay", x.point(0, 2, 1, 4), 4);
        due.is("points of the other pupil", x.point(1, 2, 1, 6), 6);
        due.is("points in another question", x.point(1, 3, 1, 10), 10);
        x.worth(2, 20);
        due.is("points stay cut", x.point(0, 2, 0, 20), 6);
    }

    private static void common() {
        MarkCurves x = new MarkCurves();
        due.is("common(-1, 0)", x.common(-1, 0), Due.BEYOND);
        due.is("common(8, 0)", x.common(8, 0), Due.BEYOND);
        due.is("common(0, -2)", x.common(0, -2), Due.BEYOND);
        due.is("common(0, 401)", x.common(0, 401), Due.BEYOND);
        due.is("common(7, 400)", x.common(7, 400), -1);
        due.is("common(7, 0)", x.common(7, 0), 400);
        due.is("common with 0 is common", x.paper(5), 128);
        due.is("common(7, -1)", x.common(7, -1), 0);
        due.is("common(7, -1) again", x.common(7, -1), -1);
        due.is("none is common", x.count(2), 0);
    }

    private static void pupil() {
        MarkCurves x = new MarkCurves();
        due.is("pupil(-1)", x.pupil(-1), Due.BEYOND);
        due.is("pupil(4)", x.pupil(4), Due.BEYOND);
        for (int p = 0; p < 12; p++) {
            due.is("pupil " + p, x.pupil(p % 4), p);
        }
        due.is("a 13th pupil", x.pupil(0), Due.FULL);
        due.is("a 13th pupil of no class", x.pupil(4), Due.BEYOND);
        due.is("pupils", x.count(0), 12);
        due.is("class of 11", x.pupilOf(11, 0), 3);
    }

    private static void point() {
        MarkCurves x = new MarkCurves();
        due.is("point without pupils", x.point(0, 0, 0, 0), Due.BEYOND);
        x.pupil(0);
        x.worth(3, 12);
        due.is("point(-1, 0, 0, 0)", x.point(-1, 0, 0, 0), Due.BEYOND);
        due.is("point(1, 0, 0, 0)", x.point(1, 0, 0, 0), Due.BEYOND);
        due.is("point(0, -1, 0, 0)", x.point(0, -1, 0, 0), Due.BEYOND);
        due.is("point(0, 8, 0, 0)", x.point(0, 8, 0, 0), Due.BEYOND);
        due.is("point(0, 0, -1, 0)", x.point(0, 0, -1, 0), Due.BEYOND);
        due.is("point(0, 0, 2, 0)", x.point(0, 0, 2, 0), Due.BEYOND);
        due.is("point(0, 0, 0, -1)", x.point(0, 0, 0, -1), Due.BEYOND);
        due.is("point(0, 3, 0, 13)", x.point(0, 3, 0, 13), Due.BEYOND);
        due.is("point(0, 3, 0, 12)", x.point(0, 3, 0, 12), 0);
        due.is("point(0, 3, 1, 5)", x.point(0, 3, 1, 5), 0);
        due.is("point(0, 3, 0, 0)", x.point(0, 3, 0, 0), 12);
        due.is("point(0, 3, 1, 0)", x.point(0, 3, 1, 0), 5);
    }

    private static void pupilOf() {
        MarkCurves x = new MarkCurves();
        x.pupil(3);
        x.point(0, 0, 0, 4);
        x.point(0, 0, 1, 7);
        x.point(0, 7, 0, 9);
        due.is("class", x.pupilOf(0, 0), 3);
        due.is("raw of cut scores", x.pupilOf(0, 1), 5 + 4);
        due.is("score in 0", x.pupilOf(0, 2), 5);
        due.is("score in 1", x.pupilOf(0, 3), 0);
        due.is("score in 7", x.pupilOf(0, 9), 4);
        due.is("pupilOf(0, 10)", x.pupilOf(0, 10), Due.BEYOND);
        due.is("pupilOf(0, -1)", x.pupilOf(0, -1), Due.BEYOND);
        due.is("pupilOf(1, 0)", x.pupilOf(1, 0), Due.BEYOND);
        due.is("pupilOf(-1, 0)", x.pupilOf(-1, 0), Due.BEYOND);
    }

    private static void paper() {
        MarkCurves x = new MarkCurves();
        due.is("greatest raw of nobody", x.paper(1), Due.NONE);
        due.is("new mean of nobody", x.paper(3), Due.NONE);
        due.is("sum of raws of nobody", x.paper(4), 0);
        due.is("paper(-1)", x.paper(-1), Due.BEYOND);
        due.is("paper(6)", x.paper(6), Due.BEYOND);
        x = Due.fourPupils();
        x.worth(7, 40);
        x.common(0, 100);
        x.common(3, 55);
        due.is("full", x.paper(0), 110);
        due.is("greatest raw", x.paper(1), 30);
        due.is("old mean", x.paper(2), 155);
        due.is("new mean, cut", x.paper(3), 62);
        due.is("sum of raws", x.paper(4), 55);
        due.is("common questions", x.paper(5), 9);
    }

    /** Draws from z = 1: z becomes 1103527590, then 2524885223 as an int, and so on. */
    private static void drawn() {
        MarkCurves x = new MarkCurves();
        due.is("drawn without pupils", x.drawn(0, 0), Due.BEYOND);
        due.is("z is not drawn from then", x.count(4), 1);
        x.pupil(0);
        due.is("drawn(-1, 0)", x.drawn(-1, 0), Due.BEYOND);
        due.is("drawn(1, 0)", x.drawn(1, 0), Due.BEYOND);
        due.is("drawn(0, -1)", x.drawn(0, -1), Due.BEYOND);
        due.is("drawn(0, 2)", x.drawn(0, 2), Due.BEYOND);
        x.worth(1, 0);
        x.worth(2, 40);
        for (int marker = 1; marker >= 0; marker--) {
            int z = marker == 1 ? 1 : 77;
            x.seed(z);
            int raw = x.drawn(0, marker);
            int[] worths = {10, 0, 40, 10, 10, 10, 10, 10};
            for (int q = 0; q < 8; q++) {
                z = z * 1103515245 + 12345;
                int drawn = (z >>> 8) % (worths[q] + 1);
                due.is("drawn in " + q, x.point(0, q, marker, drawn), drawn);
            }
            due.is("raw then", raw, x.pupilOf(0, 1));
            due.is("z after eight draws", x.count(4), z);
        }
        x.seed(1);
        x.drawn(0, 0);
        due.is("the first draw of 1", x.point(0, 0, 0, 0), (1103527590 >>> 8) % 11);
    }

    private static void drop() {
        MarkCurves x = new MarkCurves();
        due.is("drop of nobody", x.drop(), Due.NONE);
        x.pupil(1);
        x.pupil(2);
        x.point(0, 0, 0, 8);
        x.point(1, 0, 0, 9);
        x.point(1, 7, 1, 9);
        due.is("drop()", x.drop(), 1);
        due.is("the latest is gone", x.pupilOf(1, 0), Due.BEYOND);
        due.is("the first stays", x.pupilOf(0, 1), 4);
        due.is("the next has its number", x.pupil(3), 1);
        due.is("but a class of its own", x.pupilOf(1, 0), 3);
        due.is("and no points by marker 0", x.point(1, 0, 0, 0), 0);
        due.is("nor by marker 1", x.point(1, 7, 1, 0), 0);
        x.drop();
        due.is("the last drop", x.drop(), 0);
        due.is("one drop too many", x.drop(), Due.NONE);
    }
}
