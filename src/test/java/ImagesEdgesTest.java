/** The boundary cases of promises 47 to 51 and of the terms that they use, a sentence each. */
public final class ImagesEdgesTest {
    private static final Due due = new Due();

    public static void main(String[] args) {
        nothingIsKept();
        imageOfTheEmptyPaper();
        imageOfTheFullPaper();
        allOfAnyPaperComesBack();
        undoKeepsTapeAndSheets();
        undoKeepsTheImage();
        theLatestImageCounts();
        laterActsDontReachTheImage();
        spotsComeBackWithTheirCurves();
        tearTellsIfSomethingWas();
        imageAfterTear();
        countOfNothing();
        countOfTheMost();
        countOfAnother();
        statusOfNothing();
        statusOfEach();
        statusOfAnotherCountsFromThenOn();
        undoTakesNoFindingBack();
        whatIsNoFinding();
        fiveHundredAndTwelveCalls();
        due.end();
    }

    private static void nothingIsKept() {
        MarkCurves x = new MarkCurves();
        due.is("undo of nothing", x.undo(), Due.NONE);
        due.is("tear of nothing", x.tear(), 0);
        due.is("undo of nothing again", x.undo(), Due.NONE);
        due.is("two findings", x.status(3), 2);
    }

    private static void imageOfTheEmptyPaper() {
        MarkCurves x = new MarkCurves();
        due.is("an image of nothing", x.image(), 1);
        for (int q = 0; q < 8; q++) {
            x.worth(q, q);
            x.common(q, q);
        }
        for (int i = 0; i < 12; i++) {
            x.pupil(0);
            x.curve(0, 0);
            x.hold(i, 0);
        }
        x.seed(-5);
        due.is("nobody", x.undo(), 0);
        int[] counts = {0, 0, 0, 0, 1, 0};
        for (int what = 0; what < 6; what++) {
            due.is("count of " + what, x.count(what), counts[what]);
        }
        for (int q = 0; q < 8; q++) {
            due.is("WORTH", x.worth(q, 10), 10);
            due.is("COMMON", x.common(q, -1), -1);
        }
        due.is("no PUPIL", x.pupilOf(0, 0), Due.BEYOND);
        due.is("no CURVE", x.curveOf(0, 0), Due.BEYOND);
        due.is("a new PUPIL", x.pupil(1), 0);
        due.is("a new CURVE", x.curve(1, 1), 0);
        due.is("an image without PUPILS is one", x.tear(), 1);
    }

    private static void imageOfTheFullPaper() {
        MarkCurves x = States.MOST.make();
        due.is("image()", x.image(), 1);
        for (int p = 0; p < 12; p++) {
            x.drop();
        }
        due.is("twelve come back", x.undo(), 12);
        due.is("as many as count tells", x.count(0), 12);
        due.is("a 13th", x.pupil(0), Due.FULL);
        due.is("six CURVES", x.count(1), 6);
        due.is("a 7th", x.curve(0, 0), Due.FULL);
    }

    /** All but the image itself, which Look's last parts tell. */
    private static void allOfAnyPaperComesBack() {
        for (States state : States.values()) {
            for (int part = 0; part < Look.OF_THE_IMAGE; part++) {
                MarkCurves x = state.make();
                MarkCurves y = state.make();
                x.image();
                spoil(x);
                x.undo();
                due.that(state + " comes back, part " + part, Look.at(x, part).equals(Look.at(y, part)));
            }
        }
    }

    private static void spoil(MarkCurves x) {
        x.drop();
        x.drop();
        x.pupil(2);
        x.drawn(0, 0);
        x.drawn(x.count(0) - 1, 1);
        x.curve(5, 5);
        for (int c = 0; c < 6; c++) {
            x.turn(c, 6 - c);
            x.by(c, 60 + c);
        }
        for (int q = 0; q < 8; q++) {
            x.worth(q, 2 + q);
            x.common(q, 200 + q);
        }
        for (int spot = 0; spot < 10; spot += 2) {
            x.hold(spot, -1);
            x.hold(spot + 1, 0);
        }
        x.seed(31);
    }

    private static void undoKeepsTapeAndSheets() {
        MarkCurves x = new MarkCurves();
        x.pupil(0);
        x.sheet(0, 8, 1);
        x.image();
        x.write(0, 0, 6);
        x.sheet(1, 16, 40);
        x.sheet(2, 8, 1);
        x.sheet(2, 0, 0);
        Due.feed(x, "bent by 9");
        due.is("undo()", x.undo(), 1);
        due.is("THE TAPE stays", x.count(3), 9);
        due.is("a number stays", x.load(0, 0, 0), 1);
        due.is("as it was written", x.point(0, 0, 0, 0), 6);
        due.is("a new sheet stays", x.write(1, 39, 0), 1);
        due.is("a MISSING one stays", x.write(2, 0, 0), Due.MISSING);
        due.is("THE TAPE is read", x.text(), 1);
        due.is("as it was fed", x.curveOf(0, 1), 9);
        x.feed(0, 4);
        x.image();
        x.wipe();
        x.sheet(0, 0, 0);
        x.undo();
        due.is("a wiped TAPE stays", x.count(3), 0);
        due.is("a sheet that went stays away", x.write(0, 0, 0), Due.MISSING);
    }

    private static void undoKeepsTheImage() {
        MarkCurves x = Due.withRaws(7, 8);
        x.image();
        for (int round = 0; round < 3; round++) {
            x.drop();
            Due.score(x, 0, 0, 1);
            due.is("undo again", x.undo(), 2);
            due.is("RAW is back", x.pupilOf(0, 1), 7);
            due.is("the other is back", x.pupilOf(1, 1), 8);
        }
        due.is("it is kept still", x.tear(), 1);
    }

    private static void theLatestImageCounts() {
        MarkCurves x = new MarkCurves();
        for (int p = 0; p < 12; p++) {
            x.pupil(0);
            x.image();
        }
        x.drop();
        x.drop();
        due.is("the latest of twelve", x.undo(), 12);
        for (int p = 0; p < 11; p++) {
            x.drop();
        }
        x.image();
        x.pupil(0);
        due.is("one with less", x.undo(), 1);
    }

    private static void laterActsDontReachTheImage() {
        for (int part = Look.OF_THE_IMAGE; part < Look.PARTS; part++) {
            MarkCurves x = States.SOME.make();
            MarkCurves y = States.SOME.make();
            x.wipe();
            y.wipe();
            spoil(x);
            due.is("a TEXT", Due.read(x, "pupil 0 1;common 7 3;bent"), 3);
            due.that("the image, part " + part, Look.at(x, part).equals(Look.at(y, part)));
        }
    }

    private static void spotsComeBackWithTheirCurves() {
        MarkCurves x = new MarkCurves();
        x.curve(3, 0);
        x.hold(0, 0);
        x.image();
        x.curve(5, 0);
        x.hold(0, 1);
        x.hold(9, 1);
        x.undo();
        due.is("the spot holds what it held", x.as(0, 3), 0);
        due.is("the other holds nothing", x.as(9, 0), Due.MISSING);
        due.is("one holds something", x.count(5), 1);
        due.is("the CURVE is gone", x.hold(9, 1), Due.BEYOND);
    }

    private static void tearTellsIfSomethingWas() {
        MarkCurves x = new MarkCurves();
        x.pupil(0);
        due.is("nothing was", x.tear(), 0);
        x.image();
        due.is("something was", x.tear(), 1);
        due.is("nothing is", x.tear(), 0);
        due.is("nothing comes back", x.undo(), Due.NONE);
        due.is("all stays as it is", x.count(0), 1);
    }

    private static void imageAfterTear() {
        MarkCurves x = new MarkCurves();
        x.image();
        x.tear();
        x.pupil(0);
        due.is("a new one", x.image(), 1);
        x.drop();
        due.is("comes back", x.undo(), 1);
    }

    private static void countOfNothing() {
        MarkCurves x = new MarkCurves();
        int[] want = {0, 0, 0, 0, 1, 0};
        for (int what = 0; what < 6; what++) {
            due.is("count of " + what, x.count(what), want[what]);
        }
    }

    private static void countOfTheMost() {
        MarkCurves x = States.MOST.make();
        x.seed(Integer.MIN_VALUE);
        int[] want = {12, 6, 8, 120, Integer.MIN_VALUE, 10};
        for (int what = 0; what < 6; what++) {
            due.is("count of " + what, x.count(what), want[what]);
        }
    }

    private static void countOfAnother() {
        MarkCurves x = new MarkCurves();
        int told = 0;
        for (int what : new int[] {-1, 6, 7, Integer.MIN_VALUE, Integer.MAX_VALUE}) {
            due.is("count of " + what, x.count(what), Due.BEYOND);
            told++;
            due.is("it is counted", x.status(0), told);
        }
    }

    private static void statusOfNothing() {
        MarkCurves x = new MarkCurves();
        for (int which = -1; which <= 6; which++) {
            due.is("status of " + which, x.status(which), 0);
        }
    }

    private static void statusOfEach() {
        MarkCurves x = States.MOST.make();
        x.sheet(1, 16, 1);
        x.sheet(2, 0, 0);
        x.tear();
        for (int i = 0; i < 7; i++) {
            for (int times = i; times < 7; times++) {
                finding(x, i);
            }
        }
        int all = 0;
        for (int which = 0; which < 7; which++) {
            due.is("status of " + which, x.status(which), 7 - which);
            all += 7 - which;
        }
        due.is("status of all", x.status(-1), all);
        due.is("to ask it is none", x.status(-1), all);
    }

    private static void finding(MarkCurves x, int which) {
        switch (which) {
            case 0: due.is("BEYOND", x.worth(8, 0), Due.BEYOND); break;
            case 1: due.is("FULL", x.feed(0, 1), Due.FULL); break;
            case 2: due.is("KIND", x.copy(0, 0, 1, 0, 1), Due.KIND); break;
            case 3: due.is("NONE", x.undo(), Due.NONE); break;
            case 4: due.is("STATE", x.moves(0, 0), Due.STATE); break;
            case 5: due.is("MISSING", x.judge(2, 0), Due.MISSING); break;
            default: due.is("SIZE", x.sheet(0, 8, -1), Due.SIZE);
        }
    }

    private static void statusOfAnotherCountsFromThenOn() {
        MarkCurves x = new MarkCurves();
        int told = 0;
        for (int which : new int[] {-2, 7, 8, Integer.MIN_VALUE, Integer.MAX_VALUE}) {
            due.is("status of " + which, x.status(which), Due.BEYOND);
            told++;
            due.is("all", x.status(-1), told);
            due.is("BEYOND", x.status(0), told);
            due.is("SIZE", x.status(6), 0);
        }
    }

    private static void undoTakesNoFindingBack() {
        MarkCurves x = new MarkCurves();
        x.worth(8, 0);
        x.image();
        x.worth(8, 0);
        x.drop();
        x.undo();
        due.is("BEYOND after undo", x.status(0), 2);
        due.is("NONE after undo", x.status(3), 1);
        x.tear();
        due.is("all after tear", x.status(-1), 3);
        x.undo();
        due.is("undo of nothing is one more", x.status(-1), 4);
    }

    private static void whatIsNoFinding() {
        MarkCurves x = new MarkCurves();
        x.seed(Due.BEYOND);
        x.seed(Due.SIZE);
        x.count(4);
        x.image();
        x.undo();
        x.count(4);
        Due.read(x, "");
        Due.read(x, "bents");
        x.lean();
        x.heavy();
        x.right(1);
        x.tear();
        x.tear();
        x.wipe();
        due.is("none of these", x.status(-1), 0);
    }

    private static void fiveHundredAndTwelveCalls() {
        MarkCurves x = new MarkCurves();
        for (int call = 1; call <= 511; call++) {
            x.worth(8, 0);
        }
        due.is("the 512th call", x.status(0), 511);
        MarkCurves y = new MarkCurves();
        for (int call = 1; call <= 511; call++) {
            y.image();
        }
        due.is("the 512th call of another", y.undo(), 0);
        MarkCurves z = new MarkCurves();
        for (int call = 1; call <= 510; call += 2) {
            z.sheet(call / 2 % 4, 32, 40);
            z.seed(call);
        }
        due.is("the 511th call of a third", z.count(4), 509);
        due.is("and its 512th", z.write(3, 39, 0), 1);
    }
}
