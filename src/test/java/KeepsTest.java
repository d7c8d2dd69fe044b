/** Promises 18 to 24: what a curve keeps and breaks, who gains, whom a new pupil moves. */
public final class KeepsTest {
    private static final Due due = new Due();

    public static void main(String[] args) {
        keepsAndBreaks();
        firstBreakGoesByTheFirstOne();
        heaped();
        gains();
        moves();
        movesByPlaces();
        movesByLinks();
        without();
        withoutForTheFirst();
        withoutHoldsOldMean();
        wrongInputs();
        due.end();
    }

    private static void keepsAndBreaks() {
        MarkCurves x = new MarkCurves();
        Due.read(x, "pupil 0 10;pupil 0 0 6;pupil 0 8 1;curve;dropped by 8");
        due.is("a plain curve keeps", x.keeps(0), 1);
        due.is("a plain curve breaks nothing", x.breaks(0), Due.NONE);
        Due.marksAre(due, x, 1, 0, 6, 1);
        due.is("dropped keeps", x.keeps(1), 0);
        due.is("dropped breaks 0 and 1", x.breaks(1), 1);
        x.point(1, 0, 0, 10);
        x.point(1, 0, 1, 10);
        due.is("dropped breaks 0 and 2", x.breaks(1), 2);
        x.point(2, 1, 0, 0);
        due.is("equal marks keep", x.keeps(1), 1);
        x.point(0, 0, 0, 0);
        x.point(0, 0, 1, 0);
        x.point(0, 1, 0, 7);
        x.point(0, 1, 1, 7);
        x.point(2, 1, 0, 1);
        due.is("the first may stand behind", x.breaks(1), 100);
    }

    private static void firstBreakGoesByTheFirstOne() {
        MarkCurves x = new MarkCurves();
        Due.read(x, "pupil 0 0 6;pupil 0 10;pupil 0 8 1;dropped");
        due.is("1 before 0 and before 2", x.breaks(0), 100);
        x.point(1, 0, 0, 0);
        x.point(1, 0, 1, 0);
        due.is("2 before 0", x.breaks(0), 200);
        x.point(2, 0, 0, 3);
        due.is("like raw breaks nothing", x.breaks(0), Due.NONE);
        due.is("like raw keeps", x.keeps(0), 1);
    }

    private static void heaped() {
        MarkCurves x = Due.fourPupils();
        Due.read(x, "shared;added by 50;curve;shared by 100");
        due.is("two and two at 60 and 30", x.heaped(0), 2);
        due.is("one pair at full", x.heaped(1), 0);
        x.by(1, 60);
        due.is("one pair at full then", x.heaped(1), 1);
        due.is("raw as it is", x.heaped(2), 0);
        due.is("all four", x.heaped(3), 6);
        x.pupil(0);
        due.is("a like raw is no heap", x.heaped(3), 9);
        due.is("nor by raw", x.heaped(2), 0);
    }

    /** By the kinds that there are nobody can gain: fewer points never lift a mark. */
    private static void gains() {
        MarkCurves x = Due.fourPupils();
        x.common(0, 333);
        x.common(1, 0);
        x.point(0, 0, 1, 3);
        x.point(2, 1, 0, 9);
        for (int kind = 0; kind < 6; kind++) {
            x.curve(kind, 7 * kind);
        }
        for (int kind = 0; kind <= 6; kind++) {
            x.turn(5, kind);
            due.is("gains with kind " + kind, x.gains(5), 0);
            for (int p = 0; p < 4; p++) {
                due.is("gainsBy with kind " + kind, x.gainsBy(5, p), Due.NONE);
            }
        }
        due.is("points are as they were", x.point(0, 0, 0, 10), 10);
        due.is("raw is as it was", x.pupilOf(2, 1), 19);
    }

    private static void moves() {
        MarkCurves x = Due.fourPupils();
        Due.read(x, "stretched;curve");
        due.is("a lesser one moves nobody", x.moves(0, 3), 0);
        due.is("a better one moves all with marks", x.moves(0, 4), 7);
        due.is("raw moves nobody", x.moves(1, 40), 0);
        due.is("nobody came", x.count(0), 4);
        Due.marksAre(due, x, 0, 100, 16, 66, 0);
        for (int q = 3; q < 8; q++) {
            x.worth(q, 1);
        }
        x.point(2, 0, 0, 9);
        x.point(2, 0, 1, 9);
        due.is("points are held to worth", x.moves(0, 8), 0);
        due.is("and may just reach", x.moves(0, 9), 7);
    }

    private static void movesByPlaces() {
        MarkCurves x = Due.fourPupils();
        x.curve(4, 25);
        due.is("ahead of all: 60 for 100, 60 for 60", x.moves(0, 40), 1);
        due.is("behind all but one", x.moves(0, 0), 2);
        for (int p = 4; p < 11; p++) {
            x.pupil(0);
        }
        due.is("a 12th lifts the third place to 100", x.moves(0, 0), 2);
        x.pupil(0);
        due.is("there are 12", x.moves(0, 0), Due.STATE);
        due.is("there are 12, but no such curve", x.moves(1, 0), Due.BEYOND);
        due.is("there are 12, but no such points", x.moves(0, 41), Due.BEYOND);
    }

    private static void movesByLinks() {
        MarkCurves x = Due.fourPupils();
        x.curve(5, 0);
        x.common(0, 100);
        Due.marksAre(due, x, 0, 36, 11, 26, 6);
        due.is("new mean 37 becomes 30", x.moves(0, 0), 15);
        due.is("new mean 37 becomes 40", x.moves(0, 5), 0);
        due.is("new mean 37 becomes 42", x.moves(0, 6), 15);
    }

    private static void without() {
        MarkCurves x = Due.fourPupils();
        Due.read(x, "stretched;added by 60;dropped by 2");
        due.is("without 2", x.without(0, 2), 2);
        due.is("without 4", x.without(0, 4), Due.NONE);
        due.is("without 0", x.without(0, 0), 2);
        due.is("without 1", x.without(0, 1), 1);
        due.is("added: full falls", x.without(1, 3), Due.NONE);
        due.is("dropped: the dropped one", x.without(2, 2), Due.NONE);
        x.worth(2, 0);
        due.is("dropped: one without worth", x.without(2, 2), Due.NONE);
        x.worth(2, 10);
        x.point(0, 2, 0, 10);
        x.point(0, 2, 1, 10);
        due.is("worth is as it was", x.paper(0), 80);
        due.is("points are as they were", x.pupilOf(0, 1), 30);
        x.point(1, 0, 0, 0);
        x.point(1, 0, 1, 0);
        x.point(1, 1, 0, 10);
        x.point(1, 1, 1, 10);
        x.point(1, 5, 0, 10);
        x.point(1, 5, 1, 10);
        due.is("of several the least", x.without(0, 0), 1);
    }

    private static void withoutForTheFirst() {
        MarkCurves x = new MarkCurves();
        Due.read(x, "pupil 0 5;pupil 0 9 9;stretched");
        due.is("pupil 0 is found too", x.without(0, 1), 0);
    }

    /** A common question without worth is common still. */
    private static void withoutHoldsOldMean() {
        MarkCurves x = Due.fourPupils();
        x.curve(5, 0);
        x.common(0, 40);
        Due.marksAre(due, x, 0, 30, 5, 20, 0);
        due.is("new mean 0: 4 more for those without points", x.without(0, 0), 2);
    }

    private static void wrongInputs() {
        MarkCurves x = Due.fourPupils();
        x.curve(0, 0);
        for (int c = -1; c <= 1; c += 2) {
            due.is("keeps(" + c + ")", x.keeps(c), Due.BEYOND);
            due.is("breaks(" + c + ")", x.breaks(c), Due.BEYOND);
            due.is("heaped(" + c + ")", x.heaped(c), Due.BEYOND);
            due.is("gains(" + c + ")", x.gains(c), Due.BEYOND);
            due.is("gainsBy(" + c + ", 0)", x.gainsBy(c, 0), Due.BEYOND);
            due.is("moves(" + c + ", 0)", x.moves(c, 0), Due.BEYOND);
            due.is("without(" + c + ", 0)", x.without(c, 0), Due.BEYOND);
        }
        due.is("gainsBy(0, -1)", x.gainsBy(0, -1), Due.BEYOND);
        due.is("gainsBy(0, 4)", x.gainsBy(0, 4), Due.BEYOND);
        due.is("moves(0, -1)", x.moves(0, -1), Due.BEYOND);
        due.is("moves(0, 41)", x.moves(0, 41), Due.BEYOND);
        due.is("without(0, -1)", x.without(0, -1), Due.BEYOND);
        due.is("without(0, 8)", x.without(0, 8), Due.BEYOND);
    }
}
