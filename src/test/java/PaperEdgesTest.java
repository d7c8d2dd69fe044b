/** The boundary cases of promises 1 to 9 and of the terms that they use, a sentence each. */
public final class PaperEdgesTest {
    private static final Due due = new Due();

    public static void main(String[] args) {
        newObjectsAreApart();
        newObjectIsEmpty();
        everyQuestionHasAWorth();
        pointsAboveWorthBecomeWorth();
        pointsNotAboveWorthStay();
        moreWorthLiftsNoPoints();
        everyQuestionMayBeCommon();
        oldIsForgotten();
        twelvePupils();
        everyClass();
        newPupilHasNoPoints();
        pointsUpToWorth();
        worthBoundsPoints();
        everyPointIsItsOwn();
        scoreIsCut();
        rawIsTheSumOfScores();
        fullOfAll();
        greatestRaw();
        oldMean();
        newMean();
        sumOfRaws();
        drawsOfKnownSeeds();
        drawsThatWrapAround();
        drawsOverWorth();
        drawsOfNoWorth();
        drawsGoOn();
        dropDownToNobody();
        dropTakesTheLatest();
        due.end();
    }

    private static void newObjectsAreApart() {
        States.MOST.make();
        newObjectIsEmpty();
        MarkCurves x = new MarkCurves();
        MarkCurves y = new MarkCurves();
        x.pupil(0);
        x.curve(0, 0);
        x.image();
        x.seed(7);
        x.sheet(0, 8, 1);
        x.feed(0, 1);
        x.drop();
        x.drop();
        due.is("a pupil of another", y.count(0), 0);
        due.is("a curve of another", y.count(1), 0);
        due.is("bytes of another", y.count(3), 0);
        due.is("z of another", y.count(4), 1);
        due.is("an image of another", y.tear(), 0);
        due.is("a sheet of another", y.write(0, 0, 0), Due.MISSING);
        due.is("findings of another", y.status(3), 0);
    }

    private static void newObjectIsEmpty() {
        MarkCurves x = new MarkCurves();
        due.is("new: no finding", x.status(-1), 0);
        due.is("new: FULL is 8 times 10", x.paper(0), 80);
        due.is("new: nobody has RAW", x.paper(4), 0);
        due.is("new: no text", x.text(), -1);
        due.is("new: nothing to wipe", x.wipe(), 0);
        due.is("new: nothing to tear", x.tear(), 0);
        due.is("new: no pupil 0", x.pupilOf(0, 0), Due.BEYOND);
        due.is("new: no curve 0", x.curveOf(0, 0), Due.BEYOND);
        due.is("new: the first pupil is 0", x.pupil(0), 0);
        due.is("new: the first curve is 0", x.curve(0, 0), 0);
        due.is("new: the first image", x.undo(), Due.NONE);
    }

    private static void everyQuestionHasAWorth() {
        MarkCurves x = new MarkCurves();
        for (int q = 0; q < 8; q++) {
            due.is("at first 10", x.worth(q, 40), 10);
            due.is("the greatest", x.worth(q, 0), 40);
            due.is("the least", x.worth(q, 1), 0);
            due.is("one more", x.worth(q, 39), 1);
            due.is("one less than the greatest", x.worth(q, 39), 39);
        }
        due.is("FULL then", x.paper(0), 8 * 39);
    }

    private static void pointsAboveWorthBecomeWorth() {
        for (int worth : new int[] {0, 1, 20, 39}) {
            MarkCurves x = Due.widePaper();
            for (int p = 0; p < 12; p++) {
                x.pupil(0);
                Due.score(x, p, 7, 40);
                x.point(p, 0, p % 2, worth + 1);
            }
            x.worth(7, worth);
            x.worth(0, worth);
            for (int p = 0; p < 12; p++) {
                due.is("40 by marker 0", x.point(p, 7, 0, 0), worth);
                due.is("40 by marker 1", x.point(p, 7, 1, 0), worth);
                due.is("WORTH and 1", x.point(p, 0, p % 2, 0), worth);
            }
        }
    }

    private static void pointsNotAboveWorthStay() {
        MarkCurves x = Due.widePaper();
        x.pupil(0);
        for (int q = 0; q < 8; q++) {
            x.point(0, q, 0, 17);
            x.point(0, q, 1, 18);
        }
        x.worth(3, 18);
        due.is("below WORTH", x.point(0, 3, 0, 17), 17);
        due.is("as much as WORTH", x.point(0, 3, 1, 18), 18);
        due.is("the question ahead", x.point(0, 2, 1, 18), 18);
        due.is("the question behind", x.point(0, 4, 1, 18), 18);
        x.worth(3, 18);
        due.is("like WORTH again", x.point(0, 3, 1, 18), 18);
    }

    private static void moreWorthLiftsNoPoints() {
        MarkCurves x = new MarkCurves();
        x.pupil(0);
        Due.score(x, 0, 0, 10);
        x.worth(0, 40);
        due.is("points at the old WORTH", x.point(0, 0, 0, 10), 10);
        x.worth(0, 4);
        x.worth(0, 40);
        due.is("points at the least WORTH since", x.point(0, 0, 1, 4), 4);
        due.is("RAW", x.pupilOf(0, 1), 4);
    }

    private static void everyQuestionMayBeCommon() {
        MarkCurves x = new MarkCurves();
        for (int q = 0; q < 8; q++) {
            due.is("it wasn't", x.common(q, -1), -1);
            due.is("it wasn't yet", x.common(q, 0), -1);
            due.is("COMMON with 0", x.paper(5), 1 << q);
            due.is("one is", x.count(2), 1);
            due.is("the least OLD", x.common(q, 400), 0);
            due.is("the greatest OLD", x.common(q, 399), 400);
            due.is("OLD MEAN", x.paper(2), 399);
            due.is("it isn't then", x.common(q, -1), 399);
            due.is("none is", x.paper(5), 0);
            due.is("none counts", x.count(2), 0);
        }
        for (int q = 0; q < 8; q++) {
            x.common(q, q);
        }
        due.is("all are", x.paper(5), 255);
        due.is("eight are", x.count(2), 8);
    }

    private static void oldIsForgotten() {
        MarkCurves x = new MarkCurves();
        x.common(4, 250);
        x.common(4, -1);
        due.is("OLD MEAN without it", x.paper(2), 0);
        due.is("it wasn't", x.common(4, 3), -1);
        due.is("OLD MEAN anew", x.paper(2), 3);
    }

    private static void twelvePupils() {
        MarkCurves x = new MarkCurves();
        for (int p = 0; p < 12; p++) {
            due.is("its number", x.pupil(3), p);
            due.is("how many", x.count(0), p + 1);
        }
        due.is("the 13th", x.pupil(0), Due.FULL);
        due.is("the last is there", x.pupilOf(11, 0), 3);
        due.is("the 13th isn't", x.pupilOf(12, 0), Due.BEYOND);
        due.is("one less", x.drop(), 11);
        due.is("a 12th again", x.pupil(1), 11);
        due.is("of its own class", x.pupilOf(11, 0), 1);
        due.is("and no 13th", x.pupil(1), Due.FULL);
    }

    private static void everyClass() {
        MarkCurves x = new MarkCurves();
        for (int klass = 0; klass < 4; klass++) {
            x.pupil(klass);
        }
        for (int klass = 0; klass < 4; klass++) {
            due.is("CLASS", x.pupilOf(klass, 0), klass);
        }
    }

    private static void newPupilHasNoPoints() {
        MarkCurves x = new MarkCurves();
        for (int round = 0; round < 2; round++) {
            x.pupil(2);
            for (int q = 0; q < 8; q++) {
                due.is("points at first, by 0", x.point(0, q, 0, 10), 0);
                due.is("points at first, by 1", x.point(0, q, 1, 10), 0);
            }
            x.drop();
        }
    }

    private static void pointsUpToWorth() {
        for (int worth : new int[] {0, 1, 10, 39, 40}) {
            MarkCurves x = new MarkCurves();
            x.pupil(0);
            x.worth(2, worth);
            for (int marker = 0; marker < 2; marker++) {
                due.is("as many as WORTH", x.point(0, 2, marker, worth), 0);
                due.is("one more", x.point(0, 2, marker, worth + 1), Due.BEYOND);
                due.is("less than none", x.point(0, 2, marker, -1), Due.BEYOND);
                due.is("none", x.point(0, 2, marker, 0), worth);
            }
            due.is("another question's WORTH", x.point(0, 1, 0, 10), 0);
        }
    }

    private static void worthBoundsPoints() {
        MarkCurves x = new MarkCurves();
        x.pupil(0);
        due.is("11 of 10", x.point(0, 6, 0, 11), Due.BEYOND);
        x.worth(6, 11);
        due.is("11 of 11", x.point(0, 6, 0, 11), 0);
        x.worth(6, 5);
        due.is("6 of 5", x.point(0, 6, 0, 6), Due.BEYOND);
        due.is("5 of 5", x.point(0, 6, 0, 5), 5);
    }

    private static void everyPointIsItsOwn() {
        MarkCurves x = Due.widePaper();
        for (int p = 0; p < 12; p++) {
            x.pupil(0);
        }
        for (int i = 0; i < 192; i++) {
            x.point(i / 16, i / 2 % 8, i % 2, (i * 7 + i / 40) % 41);
        }
        for (int i = 0; i < 192; i++) {
            int was = x.point(i / 16, i / 2 % 8, i % 2, 0);
            due.is("point " + i, was, (i * 7 + i / 40) % 41);
        }
    }

    private static void scoreIsCut() {
        MarkCurves x = Due.widePaper();
        x.pupil(0);
        int[][] of = {{0, 0, 0}, {0, 1, 0}, {1, 0, 0}, {1, 1, 1}, {1, 2, 1}, {40, 39, 39}, {40, 40, 40}, {0, 40, 20}};
        for (int q = 0; q < 8; q++) {
            x.point(0, q, 0, of[q][0]);
            x.point(0, q, 1, of[q][1]);
            due.is("half of " + of[q][0] + " and " + of[q][1], x.pupilOf(0, 2 + q), of[q][2]);
        }
    }

    private static void rawIsTheSumOfScores() {
        MarkCurves x = Due.widePaper();
        x.pupil(0);
        due.is("no RAW", x.pupilOf(0, 1), 0);
        for (int q = 0; q < 8; q++) {
            x.point(0, q, q % 2, 1);
        }
        due.is("eight halves are no RAW", x.pupilOf(0, 1), 0);
        due.is("nor in the sum of all", x.paper(4), 0);
        for (int q = 0; q < 8; q++) {
            Due.score(x, 0, q, 40);
        }
        due.is("the most RAW", x.pupilOf(0, 1), 320);
    }

    private static void fullOfAll() {
        MarkCurves x = Due.widePaper();
        due.is("the greatest FULL", x.paper(0), 320);
        for (int q = 0; q < 8; q++) {
            x.worth(q, 0);
        }
        due.is("the least FULL", x.paper(0), 0);
        x.worth(7, 1);
        due.is("FULL of the last question", x.paper(0), 1);
    }

    private static void greatestRaw() {
        MarkCurves x = new MarkCurves();
        due.is("of nobody", x.paper(1), Due.NONE);
        x.pupil(0);
        due.is("of one with nothing", x.paper(1), 0);
        x.drop();
        due.is("of nobody again", x.paper(1), Due.NONE);
        MarkCurves y = Due.withRaws(0, 3, 1, 0, 0, 0, 0, 0, 0, 0, 0, 320);
        due.is("of the last of 12", y.paper(1), 320);
        y.drop();
        due.is("of another", y.paper(1), 3);
    }

    private static void oldMean() {
        MarkCurves x = new MarkCurves();
        due.is("of no COMMON question", x.paper(2), 0);
        for (int q = 0; q < 8; q++) {
            x.common(q, 400);
        }
        due.is("the greatest", x.paper(2), 3200);
        x.common(7, 0);
        due.is("with one of 0", x.paper(2), 2800);
        x.common(0, -1);
        due.is("with one less", x.paper(2), 2400);
    }

    private static void newMean() {
        MarkCurves x = new MarkCurves();
        x.common(0, 9);
        due.is("of nobody", x.paper(3), Due.NONE);
        for (int p = 0; p < 12; p++) {
            x.pupil(0);
        }
        due.is("of nothing", x.paper(3), 0);
        for (int p = 0; p < 11; p++) {
            Due.score(x, p, 0, 1);
            Due.score(x, p, 1, 9);
        }
        due.is("110 by 12 is cut", x.paper(3), 9);
        x.point(11, 0, 0, 1);
        due.is("half a SCORE is none", x.paper(3), 9);
        x.point(11, 0, 1, 1);
        due.is("120 by 12", x.paper(3), 10);
        x.common(0, -1);
        due.is("of no COMMON question", x.paper(3), 0);
        MarkCurves y = Due.withRaws(320);
        for (int q = 0; q < 8; q++) {
            y.common(q, 0);
        }
        due.is("the greatest", y.paper(3), 3200);
        y.pupil(0);
        due.is("of two", y.paper(3), 1600);
        y.pupil(0);
        due.is("of three, cut", y.paper(3), 1066);
    }

    private static void sumOfRaws() {
        MarkCurves x = Due.widePaper();
        due.is("of nobody", x.paper(4), 0);
        for (int p = 0; p < 12; p++) {
            Due.addPupil(x, 320);
        }
        due.is("the greatest", x.paper(4), 3840);
    }

    /** What z, and (z >>> 8), come to was worked out apart from this program. */
    private static void draws(int seed, int zThen, int raw, int... points) {
        MarkCurves x = new MarkCurves();
        x.pupil(0);
        x.seed(seed);
        due.is("RAW, half of what " + seed + " draws", x.drawn(0, 0), raw);
        due.is("z after " + seed, x.count(4), zThen);
        for (int q = 0; q < 8; q++) {
            due.is("drawn by " + seed + " in " + q, x.point(0, q, 0, 0), points[q]);
        }
    }

    private static void drawsOfKnownSeeds() {
        draws(1, -1661227463, 26, 7, 1, 9, 7, 5, 10, 8, 10);
        draws(0, -853684456, 20, 4, 7, 3, 2, 7, 8, 9, 5);
        draws(9, 468363073, 14, 3, 0, 9, 3, 9, 9, 0, 1);
    }

    /** Seeds whose first step leaves the ints, or is below 0: a draw is never below 0. */
    private static void drawsThatWrapAround() {
        draws(2, 1826196826, 13, 0, 7, 9, 1, 8, 1, 1, 4);
        draws(-1, -46141449, 24, 5, 8, 4, 8, 4, 6, 5, 10);
        draws(Integer.MAX_VALUE, 2101342199, 15, 8, 5, 1, 0, 1, 9, 8, 2);
        draws(Integer.MIN_VALUE, 1293799192, 19, 1, 10, 6, 5, 4, 0, 6, 8);
        draws(-1000001, -1085102665, 17, 1, 0, 9, 9, 0, 5, 9, 7);
    }

    private static void drawsOverWorth() {
        MarkCurves x = Due.widePaper();
        x.pupil(0);
        x.pupil(0);
        x.worth(3, 0);
        x.worth(5, 1);
        due.is("RAW", x.drawn(1, 1), 18 + 18 + 3 + 0 + 1 + 0 + 17 + 19);
        int[] points = {37, 36, 6, 0, 2, 9829236 % 2, 34, 39};
        for (int q = 0; q < 8; q++) {
            due.is("drawn in " + q, x.point(1, q, 1, 0), points[q]);
            due.is("by the other marker", x.point(1, q, 0, 0), 0);
            due.is("of the other pupil", x.point(0, q, 1, 0), 0);
        }
    }

    private static void drawsOfNoWorth() {
        MarkCurves x = new MarkCurves();
        x.pupil(0);
        for (int q = 0; q < 8; q++) {
            x.worth(q, 0);
        }
        due.is("RAW", x.drawn(0, 0), 0);
        due.is("eight draws all the same", x.count(4), -1661227463);
    }

    private static void drawsGoOn() {
        MarkCurves x = Due.widePaper();
        x.pupil(0);
        Due.score(x, 0, 0, 40);
        x.seed(Integer.MIN_VALUE);
        x.drawn(0, 0);
        x.drawn(0, 1);
        int z = Integer.MIN_VALUE;
        for (int draw = 0; draw < 16; draw++) {
            z = z * 1103515245 + 12345;
            due.is("draw " + draw, x.point(0, draw % 8, draw / 8, 0), (z >>> 8) % 41);
        }
        due.is("z then", x.seed(0), z);
    }

    private static void dropDownToNobody() {
        MarkCurves x = States.MOST.make();
        for (int left = 11; left >= 0; left--) {
            due.is("how many are left", x.drop(), left);
            due.is("as count tells", x.count(0), left);
        }
        due.is("nobody is left", x.drop(), Due.NONE);
        due.is("nor is one less", x.count(0), 0);
        due.is("one comes again", x.pupil(0), 0);
    }

    private static void dropTakesTheLatest() {
        MarkCurves x = Due.withRaws(7, 8, 9);
        x.drop();
        due.is("the first stays", x.pupilOf(0, 1), 7);
        due.is("the second stays", x.pupilOf(1, 1), 8);
        due.is("the third is gone", x.pupilOf(2, 1), Due.BEYOND);
        due.is("RAW of those left", x.paper(4), 15);
    }
}
