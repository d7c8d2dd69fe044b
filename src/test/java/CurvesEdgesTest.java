/** The boundary cases of promises 10 to 17 and of the terms that they use, a sentence each. */
public final class CurvesEdgesTest {
    private static final Due due = new Due();

    public static void main(String[] args) {
        sixCurves();
        everyKindAndBy();
        turnAndByToTheEnds();
        plainIsRaw();
        addedUpToFull();
        addedOnTheGreatestPaper();
        stretchedByTheGreatest();
        stretchedOfNothing();
        bentAtSquares();
        bentOfACutOne();
        sharedUpToBy();
        sharedUpToHalfTheRest();
        sharedIsCutAheadOfHowMany();
        sharedByFew();
        sharedWithLikeRaw();
        linkedTowardsNought();
        linkedTowardsNoughtBelowNought();
        linkedIsHeld();
        linkedOfNothingCommon();
        linkedOnTheGreatestPaper();
        droppedByTheRestOfBy();
        droppedOfNoWorth();
        droppedOnTheGreatestPaper();
        placeOfLikeMarks();
        placeOfTwelve();
        sumOfNobody();
        sumOfTwelve();
        middleOfFew();
        middleOfTwelve();
        middleIsAMark();
        due.end();
    }

    private static void turn(MarkCurves x, int kind, int by) {
        x.turn(0, kind);
        x.by(0, by);
    }

    private static void sixCurves() {
        MarkCurves x = new MarkCurves();
        for (int c = 0; c < 6; c++) {
            due.is("not yet there", x.curveOf(c, 0), Due.BEYOND);
            due.is("its number", x.curve(6 - c, 10 * c), c);
            due.is("how many", x.count(1), c + 1);
        }
        due.is("the 7th", x.curve(0, 0), Due.FULL);
        due.is("it isn't there", x.curveOf(6, 0), Due.BEYOND);
        for (int c = 0; c < 6; c++) {
            due.is("KIND", x.curveOf(c, 0), 6 - c);
            due.is("BY", x.curveOf(c, 1), 10 * c);
        }
    }

    private static void everyKindAndBy() {
        for (int kind = 0; kind <= 6; kind++) {
            MarkCurves x = new MarkCurves();
            due.is("BY 0", x.curve(kind, 0), 0);
            due.is("BY 100", x.curve(kind, 100), 1);
            due.is("BY 101", x.curve(kind, 101), Due.BEYOND);
            due.is("BY -1", x.curve(kind, -1), Due.BEYOND);
            due.is("the least BY", x.curveOf(0, 1), 0);
            due.is("the greatest BY", x.curveOf(1, 1), 100);
            due.is("KIND", x.curveOf(1, 0), kind);
        }
        MarkCurves y = new MarkCurves();
        due.is("KIND 7", y.curve(7, 0), Due.BEYOND);
        due.is("KIND -1", y.curve(-1, 0), Due.BEYOND);
        due.is("none came", y.count(1), 0);
    }

    private static void turnAndByToTheEnds() {
        MarkCurves x = States.MOST.make();
        for (int c = 0; c < 6; c++) {
            due.is("it was", x.turn(c, 0), c + 1);
            due.is("the least KIND", x.turn(c, 6), 0);
            due.is("the greatest KIND", x.turn(c, 6), 6);
            due.is("KIND 7", x.turn(c, 7), Due.BEYOND);
            due.is("KIND -1", x.turn(c, -1), Due.BEYOND);
            due.is("BY was", x.by(c, 0), 100 - c);
            due.is("the least BY", x.by(c, 100), 0);
            due.is("BY 101", x.by(c, 101), Due.BEYOND);
            due.is("BY -1", x.by(c, -1), Due.BEYOND);
            due.is("the greatest BY", x.by(c, 100), 100);
        }
        due.is("no 7th to turn", x.turn(6, 0), Due.BEYOND);
        due.is("no 7th BY", x.by(6, 0), Due.BEYOND);
    }

    private static void plainIsRaw() {
        MarkCurves x = Due.withRaws(0, 1, 319, 320);
        x.curve(0, 100);
        Due.marksAre(due, x, 0, 0, 1, 319, 320);
    }

    private static void addedUpToFull() {
        MarkCurves x = new MarkCurves();
        x.worth(0, 40);
        for (int q = 1; q < 8; q++) {
            x.worth(q, 0);
        }
        for (int points : new int[] {0, 1, 39, 40}) {
            Due.score(x, x.pupil(0), 0, points);
        }
        x.curve(1, 0);
        Due.marksAre(due, x, 0, 0, 1, 39, 40);
        x.by(0, 1);
        Due.marksAre(due, x, 0, 1, 2, 40, 40);
        x.by(0, 38);
        Due.marksAre(due, x, 0, 38, 39, 40, 40);
        x.by(0, 39);
        Due.marksAre(due, x, 0, 39, 40, 40, 40);
        x.by(0, 40);
        Due.marksAre(due, x, 0, 40, 40, 40, 40);
        x.by(0, 100);
        Due.marksAre(due, x, 0, 40, 40, 40, 40);
        x.worth(0, 0);
        Due.marksAre(due, x, 0, 0, 0, 0, 0);
    }

    private static void addedOnTheGreatestPaper() {
        MarkCurves x = Due.withRaws(0, 219, 220, 221, 320);
        x.curve(1, 100);
        Due.marksAre(due, x, 0, 100, 319, 320, 320, 320);
    }

    private static void stretchedByTheGreatest() {
        MarkCurves x = Due.withRaws(320, 319, 160, 4, 3, 0, 317);
        x.curve(2, 100);
        Due.marksAre(due, x, 0, 100, 99, 50, 1, 0, 0, 99);
        MarkCurves y = Due.withRaws(1, 0);
        y.curve(2, 0);
        Due.marksAre(due, y, 0, 100, 0);
    }

    private static void stretchedOfNothing() {
        MarkCurves x = Due.withRaws(0, 0);
        x.curve(2, 0);
        x.curve(3, 0);
        Due.marksAre(due, x, 0, 0, 0);
        Due.marksAre(due, x, 1, 0, 0);
    }

    private static void bentAtSquares() {
        MarkCurves x = Due.withRaws(100, 0, 1, 2, 3, 4, 25, 49, 80, 81, 82, 99);
        x.curve(3, 0);
        Due.marksAre(due, x, 0, 100, 0, 10, 14, 17, 20, 50, 70, 89, 90, 90, 99);
    }

    /** 100 times 5 by 19 is 26 and a rest; without the cut the root would be 51. */
    private static void bentOfACutOne() {
        MarkCurves x = Due.withRaws(19, 5);
        x.curve(3, 0);
        Due.marksAre(due, x, 0, 100, 50);
    }

    /** Of 12 unlike RAWS, ahead of each other as they stand. */
    private static MarkCurves twelvePlaces() {
        MarkCurves x = Due.withRaws(36, 33, 30, 27, 24, 21, 18, 15, 12, 9, 6, 3);
        x.curve(4, 0);
        return x;
    }

    private static void sharedIs(MarkCurves x, int by, int of100, int of60) {
        x.by(0, by);
        for (int p = 0; p < 12; p++) {
            int want = p < of100 ? 100 : p < of60 ? 60 : 30;
            due.is("SHARED by " + by + ", place " + (p + 1), x.mark(0, p), want);
        }
    }

    private static void sharedUpToBy() {
        MarkCurves x = twelvePlaces();
        sharedIs(x, 0, 0, 6);
        sharedIs(x, 8, 0, 6);
        sharedIs(x, 9, 1, 6);
        sharedIs(x, 24, 2, 7);
        sharedIs(x, 25, 3, 7);
        sharedIs(x, 26, 3, 7);
        sharedIs(x, 75, 9, 10);
        sharedIs(x, 91, 10, 11);
        sharedIs(x, 92, 11, 11);
        sharedIs(x, 99, 11, 11);
        sharedIs(x, 100, 12, 12);
    }

    private static void sharedUpToHalfTheRest() {
        MarkCurves x = twelvePlaces();
        sharedIs(x, 16, 1, 6);
        sharedIs(x, 18, 2, 7);
        sharedIs(x, 50, 6, 9);
        sharedIs(x, 49, 5, 8);
        sharedIs(x, 68, 8, 10);
        sharedIs(x, 84, 10, 11);
    }

    /** (BY and 100) by 2 is cut first: 58 and 83, not 58 and a half and 83 and a half. */
    private static void sharedIsCutAheadOfHowMany() {
        MarkCurves x = twelvePlaces();
        sharedIs(x, 17, 2, 6);
        sharedIs(x, 67, 8, 9);
    }

    private static void sharedByFew() {
        MarkCurves x = Due.withRaws(5);
        x.curve(4, 0);
        Due.marksAre(due, x, 0, 30);
        x.by(0, 99);
        Due.marksAre(due, x, 0, 30);
        x.by(0, 100);
        Due.marksAre(due, x, 0, 100);
        Due.addPupil(x, 6);
        x.by(0, 49);
        Due.marksAre(due, x, 0, 30, 60);
        x.by(0, 50);
        Due.marksAre(due, x, 0, 30, 100);
        x.by(0, 0);
        Due.marksAre(due, x, 0, 30, 60);
    }

    private static void sharedWithLikeRaw() {
        MarkCurves x = Due.widePaper();
        for (int p = 0; p < 12; p++) {
            x.pupil(0);
        }
        x.curve(4, 8);
        for (int p = 0; p < 12; p++) {
            due.is("all at place 1, by 8", x.mark(0, p), 60);
        }
        x.by(0, 9);
        for (int p = 0; p < 12; p++) {
            due.is("all at place 1, by 9", x.mark(0, p), 100);
        }
        MarkCurves y = Due.withRaws(5, 5, 3);
        y.curve(4, 34);
        Due.marksAre(due, y, 0, 100, 100, 30);
        y.by(0, 33);
        Due.marksAre(due, y, 0, 60, 60, 30);
    }

    /** Question 7 is COMMON, of WORTH 40 as question 0 is of 10: FULL is 50. SCORES 40 and 10; 0 and 5. */
    private static MarkCurves linked(int old) {
        MarkCurves x = new MarkCurves();
        for (int q = 1; q < 7; q++) {
            x.worth(q, 0);
        }
        x.worth(7, 40);
        x.pupil(0);
        x.pupil(0);
        Due.score(x, 0, 7, 40);
        Due.score(x, 0, 0, 10);
        Due.score(x, 1, 0, 5);
        x.common(7, old);
        x.curve(5, 100);
        due.is("NEW MEAN", x.paper(3), 200);
        return x;
    }

    private static void linkedTowardsNought() {
        Due.marksAre(due, linked(200), 0, 50, 5);
        Due.marksAre(due, linked(209), 0, 50, 5);
        Due.marksAre(due, linked(210), 0, 50, 6);
        Due.marksAre(due, linked(219), 0, 50, 6);
        Due.marksAre(due, linked(220), 0, 50, 7);
    }

    private static void linkedTowardsNoughtBelowNought() {
        Due.marksAre(due, linked(199), 0, 50, 5);
        Due.marksAre(due, linked(191), 0, 50, 5);
        Due.marksAre(due, linked(190), 0, 49, 4);
        Due.marksAre(due, linked(181), 0, 49, 4);
        Due.marksAre(due, linked(180), 0, 48, 3);
    }

    private static void linkedIsHeld() {
        Due.marksAre(due, linked(400), 0, 50, 25);
        Due.marksAre(due, linked(160), 0, 46, 1);
        Due.marksAre(due, linked(150), 0, 45, 0);
        Due.marksAre(due, linked(140), 0, 44, 0);
        Due.marksAre(due, linked(0), 0, 30, 0);
        MarkCurves x = linked(400);
        x.worth(0, 4);
        Due.marksAre(due, x, 0, 44, 24);
        x.common(0, 190);
        due.is("with two COMMON questions: 590 less 240", x.paper(2) - x.paper(3), 350);
        Due.marksAre(due, x, 0, 44, 39);
        x.common(0, 240);
        Due.marksAre(due, x, 0, 44, 44);
        x.common(0, 250);
        Due.marksAre(due, x, 0, 44, 44);
    }

    private static void linkedOfNothingCommon() {
        MarkCurves x = linked(400);
        x.common(7, -1);
        Due.marksAre(due, x, 0, 50, 5);
    }

    private static void linkedOnTheGreatestPaper() {
        MarkCurves x = Due.withRaws(320, 0);
        x.curve(5, 0);
        for (int q = 0; q < 8; q++) {
            x.common(q, 400);
        }
        Due.marksAre(due, x, 0, 320, 160);
        for (int q = 0; q < 8; q++) {
            x.common(q, 0);
        }
        Due.marksAre(due, x, 0, 160, 0);
        x.drop();
        Due.marksAre(due, x, 0, 0);
    }

    /** SCORES 1 to 8 of 10 each: RAW 36 of 80. */
    private static void droppedByTheRestOfBy() {
        MarkCurves x = new MarkCurves();
        x.pupil(0);
        x.curve(6, 0);
        for (int q = 0; q < 8; q++) {
            Due.score(x, 0, q, q + 1);
        }
        int[] marks = {40, 38, 37, 36, 35, 34, 33, 32};
        for (int by = 0; by <= 100; by++) {
            x.by(0, by);
            due.is("DROPPED by " + by, x.mark(0, 0), marks[by % 8]);
        }
    }

    private static void droppedOfNoWorth() {
        MarkCurves x = new MarkCurves();
        x.pupil(0);
        x.curve(6, 3);
        Due.score(x, 0, 3, 9);
        for (int q = 0; q < 8; q++) {
            x.worth(q, q == 3 ? 10 : 0);
        }
        due.is("the only one with WORTH is dropped", x.mark(0, 0), 0);
        x.by(0, 2);
        due.is("one without WORTH is dropped", x.mark(0, 0), 9);
        x.worth(2, 1);
        x.by(0, 3);
        due.is("one of WORTH 1 is left, without a SCORE", x.mark(0, 0), 0);
        Due.score(x, 0, 2, 1);
        due.is("and with one", x.mark(0, 0), 11);
        x.worth(2, 0);
        x.worth(3, 0);
        due.is("no question has WORTH", x.mark(0, 0), 0);
    }

    private static void droppedOnTheGreatestPaper() {
        MarkCurves x = Due.withRaws(320, 319, 0);
        x.curve(6, 0);
        Due.marksAre(due, x, 0, 320, 318, 0);
        x.by(0, 7);
        Due.marksAre(due, x, 0, 320, 320, 0);
    }

    private static void placeOfLikeMarks() {
        MarkCurves x = Due.withRaws(7);
        x.curve(0, 0);
        due.is("of one", x.place(0, 0), 1);
        x = Due.withRaws(9, 5, 9, 5, 1);
        x.curve(0, 0);
        int[] places = {1, 3, 1, 3, 5};
        for (int p = 0; p < 5; p++) {
            due.is("of like RAW", x.place(0, p), places[p]);
        }
        Due.score(x, 1, 0, 8);
        int[] ofOneLess = {1, 3, 1, 4, 5};
        for (int p = 0; p < 5; p++) {
            due.is("of one less RAW", x.place(0, p), ofOneLess[p]);
        }
        turn(x, 4, 100);
        for (int p = 0; p < 5; p++) {
            due.is("of like MARKS, though not of like RAW", x.place(0, p), 1);
        }
    }

    private static void placeOfTwelve() {
        MarkCurves x = twelvePlaces();
        x.turn(0, 0);
        for (int p = 0; p < 12; p++) {
            due.is("place", x.place(0, p), p + 1);
        }
    }

    private static void sumOfNobody() {
        MarkCurves x = new MarkCurves();
        for (int kind = 0; kind < 6; kind++) {
            x.curve(kind + 1, 100);
            for (int klass = -1; klass <= 3; klass++) {
                due.is("sum of nobody", x.sum(kind, klass), 0);
            }
        }
    }

    private static void sumOfTwelve() {
        MarkCurves x = Due.widePaper();
        x.curve(0, 0);
        for (int p = 0; p < 12; p++) {
            x.pupil(p % 4 == 3 ? 0 : p % 4);
            for (int q = 0; q < 8; q++) {
                Due.score(x, p, q, 40);
            }
        }
        int[] sums = {12 * 320, 6 * 320, 3 * 320, 3 * 320, 0};
        for (int klass = -1; klass <= 3; klass++) {
            due.is("sum of " + klass, x.sum(0, klass), sums[klass + 1]);
        }
    }

    private static void middleOfFew() {
        MarkCurves x = Due.withRaws();
        x.curve(0, 0);
        due.is("of nobody", x.middle(0), Due.NONE);
        Due.addPupil(x, 9);
        due.is("of one", x.middle(0), 9);
        Due.addPupil(x, 4);
        due.is("of two the lesser", x.middle(0), 4);
        Due.addPupil(x, 6);
        due.is("of three the second", x.middle(0), 6);
        Due.addPupil(x, 320);
        due.is("of four the second by rising order", x.middle(0), 6);
    }

    private static void middleOfTwelve() {
        MarkCurves x = Due.withRaws(5, 40, 12, 33, 0, 7, 28, 19, 3, 36, 21, 9);
        x.curve(0, 0);
        due.is("of 12, with 5 ahead", x.middle(0), 12);
        x.drop();
        due.is("of 11, with 5 ahead", x.middle(0), 19);
        x.drop();
        due.is("of 10, with 4 ahead", x.middle(0), 12);
        MarkCurves y = Due.withRaws(0, 0, 0, 0, 0, 0, 1, 1, 1, 1, 1, 1);
        y.curve(0, 0);
        due.is("like marks are each one of many", y.middle(0), 0);
        y.worth(7, 0);
        Due.score(y, 0, 0, 1);
        due.is("seven of 1", y.middle(0), 1);
    }

    private static void middleIsAMark() {
        MarkCurves x = Due.withRaws(10, 20, 40);
        x.curve(2, 0);
        due.is("STRETCHED", x.middle(0), 50);
        x.turn(0, 3);
        due.is("BENT", x.middle(0), 70);
        turn(x, 4, 0);
        due.is("SHARED", x.middle(0), 30);
        turn(x, 1, 100);
        due.is("ADDED", x.middle(0), 120);
    }
}
