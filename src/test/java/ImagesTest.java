/** Promises 47 to 51: images, counts and the status of findings. */
public final class ImagesTest {
    private static final Due due = new Due();

    public static void main(String[] args) {
        imageKeepsAll();
        imageLeavesTapeAndSheets();
        latestImageStays();
        tear();
        count();
        status();
        statusOfEachFinding();
        due.end();
    }

    private static void imageKeepsAll() {
        MarkCurves x = Due.fourPupils();
        Due.read(x, "question 5 worth 7;common 5 50;bent by 30");
        x.hold(2, 0);
        x.seed(99);
        due.is("image()", x.image(), 1);
        Due.read(x, "question 5 worth 17;common 5 51;common 6 1;curve;pupil 3 1");
        x.drop();
        x.drop();
        x.pupil(3);
        x.point(0, 0, 1, 1);
        x.turn(0, 1);
        x.by(0, 31);
        x.hold(2, -1);
        x.hold(3, 1);
        x.seed(5);
        due.is("undo()", x.undo(), 4);
        due.is("pupils", x.count(0), 4);
        due.is("class", x.pupilOf(3, 0), 2);
        due.is("raw", x.pupilOf(0, 1), 30);
        due.is("curves", x.count(1), 1);
        due.is("kind", x.curveOf(0, 0), 3);
        due.is("by", x.curveOf(0, 1), 30);
        due.is("common ones", x.paper(5), 32);
        due.is("old", x.common(5, 50), 50);
        due.is("worth", x.worth(5, 7), 7);
        due.is("z", x.count(4), 99);
        due.is("spots", x.count(5), 1);
        due.is("the spot", x.as(2, 3), 0);
    }

    private static void imageLeavesTapeAndSheets() {
        MarkCurves x = new MarkCurves();
        x.pupil(0);
        x.feed(0, 2);
        x.sheet(0, 8, 2);
        x.write(0, 0, 5);
        x.image();
        x.feed(0, 1);
        x.sheet(1, 16, 3);
        x.write(0, 0, 6);
        due.is("undo()", x.undo(), 1);
        due.is("the tape stays", x.count(3), 3);
        due.is("a sheet stays", x.load(0, 0, 0), 2);
        due.is("with its numbers", x.point(0, 0, 0, 0), 6);
        due.is("a new sheet stays", x.write(1, 2, 0), 1);
    }

    private static void latestImageStays() {
        MarkCurves x = new MarkCurves();
        due.is("undo of nothing", x.undo(), Due.NONE);
        x.pupil(0);
        x.image();
        x.pupil(0);
        due.is("a later image", x.image(), 1);
        x.pupil(0);
        due.is("undo takes the latest", x.undo(), 2);
        x.drop();
        due.is("undo again", x.undo(), 2);
        x.point(1, 0, 0, 9);
        due.is("and again", x.undo(), 2);
        due.is("what is kept did not change", x.point(1, 0, 0, 0), 0);
        Due.read(x, "pupil 0;pupil 0");
        due.is("nor by a text", x.undo(), 2);
    }

    private static void tear() {
        MarkCurves x = new MarkCurves();
        due.is("tear of nothing", x.tear(), 0);
        x.image();
        x.pupil(0);
        due.is("tear()", x.tear(), 1);
        due.is("tear again", x.tear(), 0);
        due.is("nothing is kept", x.undo(), Due.NONE);
        due.is("all stays", x.count(0), 1);
        x.image();
        x.image();
        due.is("tear of two", x.tear(), 1);
        due.is("takes both", x.undo(), Due.NONE);
    }

    private static void count() {
        MarkCurves x = Due.fourPupils();
        Due.read(x, "common 0 0;common 7 9;common 0 3;bent;bent;curve");
        x.feed(0, 4);
        x.feed(0, 1);
        x.seed(-77);
        x.hold(0, 2);
        x.hold(9, 2);
        x.hold(5, 0);
        x.hold(5, -1);
        int[] want = {4, 3, 2, 5, -77, 2};
        for (int what = 0; what < want.length; what++) {
            due.is("count(" + what + ")", x.count(what), want[what]);
        }
        due.is("count(6)", x.count(6), Due.BEYOND);
        due.is("count(-1)", x.count(-1), Due.BEYOND);
    }

    private static void status() {
        MarkCurves x = new MarkCurves();
        due.is("status(7)", x.status(7), Due.BEYOND);
        due.is("it counts from then on", x.status(0), 1);
        due.is("status(-2)", x.status(-2), Due.BEYOND);
        due.is("so does this", x.status(-1), 2);
        x.image();
        x.drop();
        due.is("one of NONE", x.status(3), 1);
        x.undo();
        due.is("undo takes none back", x.status(3), 1);
        due.is("nor of all", x.status(-1), 3);
        Due.read(x, "fault");
        x.seed(Due.FULL);
        x.seed(Due.FULL);
        x.count(4);
        due.is("a fault and z are no findings", x.status(-1), 3);
    }

    private static void statusOfEachFinding() {
        MarkCurves x = new MarkCurves();
        x.curve(1, 0);
        x.hold(0, 0);
        int[] want = new int[7];
        for (int round = 0; round < 3; round++) {
            for (int p = 0; p < 12; p++) {
                x.pupil(0);
            }
            want[0] = tellAndCount(x, want, 0, x.pupil(4), Due.BEYOND);
            want[1] += round == 0 ? 0 : 12;
            want[1] = tellAndCount(x, want, 1, x.pupil(0), Due.FULL);
            want[2] = tellAndCount(x, want, 2, x.as(0, 5), Due.KIND);
            want[3] = tellAndCount(x, want, 3, x.undo(), Due.NONE);
            want[4] = tellAndCount(x, want, 4, x.moves(0, 0), Due.STATE);
            want[5] = tellAndCount(x, want, 5, x.write(0, 0, 0), Due.MISSING);
            want[6] = tellAndCount(x, want, 6, x.sheet(0, 8, -1), Due.SIZE);
        }
        int all = 0;
        for (int which = 0; which < 7; which++) {
            due.is("status(" + which + ") at the end", x.status(which), want[which]);
            all += want[which];
        }
        due.is("status(-1) at the end", x.status(-1), all);
    }

    private static int tellAndCount(MarkCurves x, int[] want, int which, int got, int finding) {
        due.is("finding " + which, got, finding);
        due.is("status(" + which + ")", x.status(which), want[which] + 1);
        return want[which] + 1;
    }
}
