/**
 * Acts that only ask change nothing, whatever they answer; and each answers the same when it is
 * asked again.
 */
public final class AsksTest {
    private static final Due due = new Due();

    public static void main(String[] args) {
        for (States state : States.values()) {
            Twins twins = new Twins(due, state);
            ofPapers(twins);
            ofCurves(twins);
            ofCurvesAndMore(twins);
            ofLines(twins);
            ofMarkers(twins);
            ofSheets(twins);
            again(state);
        }
        due.end();
    }

    private static void ofPapers(Twins twins) {
        for (int what = 0; what <= 5; what++) {
            twins.changesNothing("paper", what);
            twins.changesNothing("count", what);
        }
        for (int what = 0; what <= 9; what++) {
            twins.changesNothing("pupilOf", 0, what);
            twins.changesNothing("pupilOf", 11, what);
        }
        for (int which = -1; which <= 6; which++) {
            twins.changesNothing("status", which);
        }
    }

    private static void ofCurves(Twins twins) {
        for (String act : new String[] {"middle", "keeps", "breaks", "heaped", "gains"}) {
            for (int curve = 0; curve < 6; curve++) {
                twins.changesNothing(act, curve);
            }
        }
    }

    private static void ofCurvesAndMore(Twins twins) {
        String[] acts = {"curveOf", "mark", "place", "sum", "gainsBy", "moves", "without", "pass", "line", "heap",
            "byFor"};
        for (String act : acts) {
            for (int curve = 0; curve < 6; curve++) {
                twins.changesNothing(act, curve, 0);
                twins.changesNothing(act, curve, 1);
            }
        }
        for (int curve = 0; curve < 6; curve++) {
            twins.changesNothing("sum", curve, -1);
            twins.changesNothing("moves", curve, 40);
            twins.changesNothing("without", curve, 7);
            twins.changesNothing("gainsBy", curve, 4);
            twins.changesNothing("letters", curve, 20, 200);
        }
    }

    private static void ofLines(Twins twins) {
        for (int line : new int[] {0, 30, 400}) {
            twins.changesNothing("kindest", line);
            for (int curve = 0; curve < 3; curve++) {
                twins.changesNothing("pass", curve, line);
                twins.changesNothing("heap", curve, line);
                twins.changesNothing("byFor", curve, line);
            }
        }
    }

    private static void ofMarkers(Twins twins) {
        twins.changesNothing("lean");
        twins.changesNothing("heavy");
        twins.changesNothing("unlike", 0);
        twins.changesNothing("unlike", 1);
        for (int question = 0; question < 8; question++) {
            twins.changesNothing("counts", question);
        }
    }

    private static void ofSheets(Twins twins) {
        for (int i = 0; i < 4; i++) {
            twins.changesNothing("judge", i, 0);
            twins.changesNothing("judge", i, 1);
            twins.changesNothing("as", 3 * i, 0);
            twins.changesNothing("as", 3 * i, 3);
        }
    }

    /** Asked in turn, with many other questions between, and once more. */
    private static void again(States state) {
        MarkCurves x = state.make();
        due.that(state + " answers the same again", Look.at(x, Look.ANSWERS).equals(Look.at(x, Look.ANSWERS)));
    }
}
