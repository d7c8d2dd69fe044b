import java.util.ArrayList;
import java.util.List;

/**
 * All that can be seen of an object, in parts. Looking changes what it looks at, and an object is
 * good for 512 calls: so each part wants a fresh object.
 */
final class Look {
    static final int PARTS = 10;
    /** This part may be asked of one object twice. */
    static final int ANSWERS = 7;
    /** From here on the parts tell what the image holds. */
    static final int OF_THE_IMAGE = 8;

    private final MarkCurves x;
    private final List<Integer> seen = new ArrayList<>();

    private Look(MarkCurves x) {
        this.x = x;
    }

    static List<Integer> at(MarkCurves x, int part) {
        Look look = new Look(x);
        switch (part) {
            case 0: look.paper(); break;
            case 1: look.points(); break;
            case 2: case 3: case 4: case 5: look.sheet(part - 2); break;
            case 6: look.tape(); break;
            case ANSWERS: look.answers(); break;
            case OF_THE_IMAGE: look.see(x.undo()); look.paper(); break;
            default: look.see(x.undo()); look.points(); break;
        }
        return look.seen;
    }

    /** How often each finding was told; this one can be asked without harm. */
    static int[] status(MarkCurves x) {
        int[] told = new int[8];
        for (int which = -1; which <= 6; which++) {
            told[which + 1] = x.status(which);
        }
        return told;
    }

    private void see(int answer) {
        seen.add(answer);
    }

    private void paper() {
        for (int what = 0; what <= 5; what++) {
            see(x.count(what));
            see(x.paper(what));
        }
        for (int p = 0; p < 12; p++) {
            see(x.pupilOf(p, 0));
            see(x.pupilOf(p, 1));
        }
        for (int c = 0; c < 6; c++) {
            see(x.curveOf(c, 0));
            see(x.curveOf(c, 1));
        }
        for (int spot = 0; spot < 10; spot++) {
            see(x.as(spot, 0));
        }
        for (int q = 0; q < 8; q++) {
            see(x.worth(q, 40));
            see(x.common(q, -1));
        }
    }

    private void points() {
        int pupils = x.count(0);
        for (int p = 0; p < pupils; p++) {
            for (int q = 0; q < 8; q++) {
                see(x.point(p, q, 0, 0));
                see(x.point(p, q, 1, 0));
            }
        }
    }

    /** Each number goes to the front and becomes points of pupil 0; then its bits are sought. */
    private void sheet(int s) {
        if (x.count(0) == 0) {
            x.pupil(0);
        }
        x.worth(0, 40);
        for (int i = 0; i < 40; i++) {
            see(x.copy(s, i, s, 0, 1));
            loadFront(s);
        }
        see(x.write(s, 0, 256 + 5));
        loadFront(s);
        see(x.write(s, 0, 65536 + 6));
        loadFront(s);
    }

    private void loadFront(int s) {
        see(x.load(s, 0, 0));
        see(x.point(0, 0, 0, 0));
    }

    /** What follows from all the rest: nothing of it may be left over from an earlier question. */
    private void answers() {
        for (int c = 0; c < 6; c++) {
            for (int p = 0; p < 12; p++) {
                see(x.mark(c, p));
            }
            see(x.sum(c, 0));
            see(x.middle(c));
            see(x.breaks(c));
            see(x.heaped(c));
            see(x.gains(c));
            see(x.moves(c, 7));
            see(x.without(c, 2));
            see(x.pass(c, 50));
            see(x.line(c, 3));
            see(x.heap(c, 50));
            see(x.byFor(c, 20));
            see(x.place(c, 0));
        }
        see(x.kindest(50));
        see(x.lean());
        see(x.unlike(0));
        see(x.unlike(1));
        see(x.counts(0));
        see(x.heavy());
    }

    private void tape() {
        see(x.count(3));
        see(x.text());
        paper();
    }
}
