import java.util.Arrays;
import java.util.List;

/** The acts by their names, or by their numbers in the order of the face: 1 is worth, 50 is status. */
final class Calls {
    static final int ACTS = 50;

    private static final List<String> NAMES = List.of(
        "worth", "common", "pupil", "point", "pupilOf", "paper", "drawn", "drop", "curve", "curveOf",
        "turn", "by", "mark", "place", "sum", "middle", "keeps", "breaks", "heaped", "gains", "gainsBy",
        "moves", "without", "pass", "line", "heap", "kindest", "byFor", "letters", "lean", "right",
        "unlike", "counts", "heavy", "seed", "feed", "wipe", "text", "hold", "as", "sheet", "write",
        "copy", "load", "judge", "image", "undo", "tear", "count", "status");

    private Calls() {
    }

    /** As many arguments as the act takes; those that are left out are 0. */
    static int ask(MarkCurves x, String act, int... args) {
        int[] a = Arrays.copyOf(args, 5);
        return ask(x, 1 + NAMES.indexOf(act), a[0], a[1], a[2], a[3], a[4]);
    }

    static int ask(MarkCurves x, int act, int a, int b, int c, int d, int e) {
        switch (act) {
            case 1: return x.worth(a, b);
            case 2: return x.common(a, b);
            case 3: return x.pupil(a);
            case 4: return x.point(a, b, c, d);
            case 5: return x.pupilOf(a, b);
            case 6: return x.paper(a);
            case 7: return x.drawn(a, b);
            case 8: return x.drop();
            case 9: return x.curve(a, b);
            case 10: return x.curveOf(a, b);
            case 11: return x.turn(a, b);
            case 12: return x.by(a, b);
            case 13: return x.mark(a, b);
            case 14: return x.place(a, b);
            case 15: return x.sum(a, b);
            case 16: return x.middle(a);
            case 17: return x.keeps(a);
            case 18: return x.breaks(a);
            case 19: return x.heaped(a);
            case 20: return x.gains(a);
            case 21: return x.gainsBy(a, b);
            case 22: return x.moves(a, b);
            case 23: return x.without(a, b);
            case 24: return x.pass(a, b);
            case 25: return x.line(a, b);
            case 26: return x.heap(a, b);
            case 27: return x.kindest(a);
            case 28: return x.byFor(a, b);
            case 29: return x.letters(a, b, c);
            case 30: return x.lean();
            case 31: return x.right(a);
            case 32: return x.unlike(a);
            case 33: return x.counts(a);
            case 34: return x.heavy();
            case 35: return x.seed(a);
            case 36: return x.feed(a, b);
            case 37: return x.wipe();
            case 38: return x.text();
            case 39: return x.hold(a, b);
            case 40: return x.as(a, b);
            case 41: return x.sheet(a, b, c);
            case 42: return x.write(a, b, c);
            case 43: return x.copy(a, b, c, d, e);
            case 44: return x.load(a, b, c);
            case 45: return x.judge(a, b);
            case 46: return x.image();
            case 47: return x.undo();
            case 48: return x.tear();
            case 49: return x.count(a);
            case 50: return x.status(a);
            default: throw new IllegalArgumentException("no act " + act);
        }
    }
}
