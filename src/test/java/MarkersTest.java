/** Promises 31 to 36: how markers lean, which questions count, and z. */
public final class MarkersTest {
    private static final Due due = new Due();

    public static void main(String[] args) {
        lean();
        right();
        unlike();
        counts();
        seed();
        due.end();
    }

    private static MarkCurves threePupils() {
        MarkCurves x = new MarkCurves();
        for (int p = 0; p < 3; p++) {
            x.pupil(0);
        }
        return x;
    }

    private static void lean() {
        due.is("lean of nobody", new MarkCurves().lean(), 0);
        MarkCurves x = threePupils();
        due.is("lean of no points", x.lean(), 0);
        x.point(0, 0, 1, 5);
        x.point(1, 7, 0, 3);
        due.is("2 more of 3, cut", x.lean(), 66);
        x.point(2, 3, 0, 4);
        due.is("2 less of 3, towards 0", x.lean(), -66);
        x.drop();
        due.is("without the third", x.lean(), 100);
    }

    private static void right() {
        MarkCurves x = threePupils();
        x.point(0, 0, 0, 5);
        x.point(0, 0, 1, 8);
        x.point(1, 7, 0, 9);
        x.point(1, 7, 1, 7);
        x.point(2, 2, 0, 4);
        due.is("right(0)", x.right(0), Due.BEYOND);
        due.is("right(-1)", x.right(-1), Due.BEYOND);
        due.is("right(41)", x.right(41), Due.BEYOND);
        due.is("right(40)", x.right(40), 0);
        due.is("right(3)", x.right(3), 2);
        due.is("marker 1 as marker 0", x.point(0, 0, 1, 0), 5);
        due.is("marker 0 as it was", x.point(0, 0, 0, 0), 5);
        due.is("marker 1 raised", x.point(2, 2, 1, 4), 4);
        due.is("a lesser unlikeness stays", x.point(1, 7, 1, 7), 7);
        due.is("right(1)", x.right(1), 1);
        due.is("right(1) again", x.right(1), 0);
    }

    private static void unlike() {
        MarkCurves x = new MarkCurves();
        due.is("unlike(0) of nobody", x.unlike(0), Due.NONE);
        due.is("unlike(1) of nobody", x.unlike(1), Due.NONE);
        due.is("unlike(2) of nobody", x.unlike(2), Due.BEYOND);
        due.is("unlike(-1)", x.unlike(-1), Due.BEYOND);
        x = threePupils();
        due.is("all alike", x.unlike(0), 0);
        due.is("all alike by 0", x.unlike(1), 0);
        x.point(1, 0, 0, 3);
        x.point(1, 1, 1, 2);
        x.point(2, 0, 0, 5);
        due.is("of several the least", x.unlike(0), 1);
        due.is("sum over questions", x.unlike(1), 5);
        x.point(2, 4, 1, 1);
        due.is("most unlike", x.unlike(0), 2);
        due.is("by so much", x.unlike(1), 6);
    }

    private static void counts() {
        MarkCurves x = new MarkCurves();
        due.is("heavy of nobody", x.heavy(), 0);
        due.is("counts(-1)", x.counts(-1), Due.BEYOND);
        due.is("counts(8)", x.counts(8), Due.BEYOND);
        Due.read(x, "pupil 0 1 0 9;pupil 0 4 7 2;pupil 0 2 0 9");
        due.is("counts(0)", x.counts(0), 3 + 1 + 2);
        due.is("counts(1)", x.counts(1), 14);
        due.is("counts(2)", x.counts(2), 14);
        due.is("counts(7)", x.counts(7), 0);
        due.is("of several the least", x.heavy(), 1);
        x.point(1, 2, 0, 0);
        due.is("scores 9, 1, 9", x.counts(2), 16);
        due.is("heavy()", x.heavy(), 2);
    }

    private static void seed() {
        MarkCurves x = new MarkCurves();
        due.is("seed at first", x.seed(Due.BEYOND), 1);
        due.is("z like a finding", x.count(4), Due.BEYOND);
        due.is("z like a finding, told by seed", x.seed(Integer.MIN_VALUE), Due.BEYOND);
        due.is("any int", x.seed(7), Integer.MIN_VALUE);
        due.is("no finding was told", x.status(-1), 0);
    }
}
