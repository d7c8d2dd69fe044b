/**
 * The empty paper and the full one, each finding that isn't a plain BEYOND, and two findings that
 * apply at once: the one that the document names first is told. None changes anything.
 */
public final class FindingsTest {
    private static final int LEAST = Integer.MIN_VALUE;
    private static final int GREATEST = Integer.MAX_VALUE;
    private static final String[] OF_CURVE = {"middle", "keeps", "breaks", "heaped", "gains"};
    private static final String[] OF_CURVE_AND_MORE = {"curveOf", "turn", "by", "sum", "moves", "without", "pass",
        "line", "heap", "byFor"};
    private static final String[] OF_CURVE_AND_PUPIL = {"mark", "place", "gainsBy"};

    private static final Due due = new Due();
    private static final Twins fresh = new Twins(due, States.NEW);
    private static final Twins nobody = new Twins(due, States.NOBODY);
    private static final Twins some = new Twins(due, States.SOME);
    private static final Twins most = new Twins(due, States.MOST);

    public static void main(String[] args) {
        valuesOfFindings();
        withoutCurves();
        withoutPupils();
        mostCurves();
        mostPupils();
        nothingToTell();
        noneIsFound();
        tooMany();
        curveAheadOfNone();
        twoOfSpots();
        twoOfSheet();
        twoOfWrite();
        twoOfCopy();
        twoOfLoadAndJudge();
        missingOnes();
        emptyAndFullSheet();
        due.end();
    }

    /** The findings as the numbers that the document tells, not by the names of the tests. */
    private static void valuesOfFindings() {
        MarkCurves x = States.SOME.make();
        due.is("BEYOND is LOW", x.worth(8, 0), -1000001);
        due.is("KIND is LOW - 2", x.as(0, 4), -1000003);
        due.is("MISSING is LOW - 5", x.write(3, 0, 0), -1000006);
        due.is("SIZE is LOW - 6", x.sheet(0, 8, -1), -1000007);
        x.tear();
        due.is("NONE is LOW - 3", x.undo(), -1000004);
        MarkCurves y = States.MOST.make();
        due.is("FULL is LOW - 1", y.pupil(0), -1000002);
        due.is("STATE is LOW - 4", y.moves(0, 0), -1000005);
    }

    private static void withoutCurves() {
        for (int curve : new int[] {LEAST, -1, 0, 1, 5, 6, GREATEST}) {
            for (String act : OF_CURVE) {
                fresh.refuse(Due.BEYOND, act, curve);
            }
            for (String act : OF_CURVE_AND_MORE) {
                fresh.refuse(Due.BEYOND, act, curve, 0);
            }
            for (String act : OF_CURVE_AND_PUPIL) {
                fresh.refuse(Due.BEYOND, act, curve, 0);
            }
            fresh.refuse(Due.BEYOND, "letters", curve, 0, 400);
            if (curve != -1) {
                fresh.refuse(Due.BEYOND, "hold", 0, curve);
            }
        }
        fresh.refuse(Due.NONE, "kindest", 0);
        fresh.refuse(Due.NONE, "kindest", 400);
    }

    private static void withoutPupils() {
        for (int pupil : new int[] {LEAST, -1, 0, 1, 11, 12, GREATEST}) {
            nobody.refuse(Due.BEYOND, "point", pupil, 0, 0, 0);
            nobody.refuse(Due.BEYOND, "pupilOf", pupil, 0);
            nobody.refuse(Due.BEYOND, "drawn", pupil, 0);
            for (String act : OF_CURVE_AND_PUPIL) {
                nobody.refuse(Due.BEYOND, act, 0, pupil);
            }
        }
    }

    private static void mostCurves() {
        for (String act : OF_CURVE) {
            most.take(act, 0);
            most.take(act, 5);
            most.refuse(Due.BEYOND, act, 6);
        }
        for (String act : OF_CURVE_AND_MORE) {
            most.take(act, 5, 1);
            most.refuse(Due.BEYOND, act, 6, 1);
        }
        for (String act : OF_CURVE_AND_PUPIL) {
            most.take(act, 5, 1);
            most.refuse(Due.BEYOND, act, 6, 1);
        }
        most.take("letters", 5, 0, 0);
        most.refuse(Due.BEYOND, "letters", 6, 0, 0);
        most.take("hold", 9, 5);
        most.refuse(Due.BEYOND, "hold", 9, 6);
        most.take("judge", 3, 5);
        most.refuse(Due.BEYOND, "judge", 3, 6);
    }

    private static void mostPupils() {
        for (int pupil = 0; pupil <= 12; pupil++) {
            boolean is = pupil < 12;
            beyondUnless(is, "point", pupil, 7, 1, 40);
            beyondUnless(is, "pupilOf", pupil, 9);
            beyondUnless(is, "drawn", pupil, 1);
            beyondUnless(is, "load", 3, pupil, 1);
            for (String act : OF_CURVE_AND_PUPIL) {
                beyondUnless(is, act, 5, pupil);
            }
        }
    }

    private static void beyondUnless(boolean is, String act, int... args) {
        if (is) {
            most.take(act, args);
        } else {
            most.refuse(Due.BEYOND, act, args);
        }
    }

    private static void nothingToTell() {
        for (Twins none : new Twins[] {fresh, nobody}) {
            none.refuse(Due.NONE, "paper", 1);
            none.refuse(Due.NONE, "paper", 3);
            none.refuse(Due.BEYOND, "paper", 6);
            none.refuse(Due.BEYOND, "paper", -1);
            for (int what : new int[] {0, 2, 4, 5}) {
                none.changesNothing("paper", what);
            }
            none.refuse(Due.NONE, "drop");
            none.refuse(Due.NONE, "unlike", 0);
            none.refuse(Due.NONE, "unlike", 1);
            none.refuse(Due.BEYOND, "unlike", 2);
            none.refuse(Due.BEYOND, "unlike", -1);
            none.refuse(Due.NONE, "undo");
        }
    }

    private static void noneIsFound() {
        nobody.refuse(Due.NONE, "middle", 1);
        nobody.refuse(Due.NONE, "breaks", 1);
        nobody.refuse(Due.NONE, "without", 1, 7);
        nobody.refuse(Due.NONE, "line", 1, 1);
        nobody.refuse(Due.NONE, "line", 1, 12);
        some.refuse(Due.NONE, "breaks", 0);
        some.refuse(Due.NONE, "gainsBy", 0, 4);
        some.refuse(Due.NONE, "line", 0, 6);
        some.refuse(Due.NONE, "byFor", 0, 400);
        some.take("line", 0, 5);
        most.take("line", 0, 12);
    }

    private static void tooMany() {
        most.refuse(Due.FULL, "pupil", 0);
        most.refuse(Due.FULL, "pupil", 3);
        most.refuse(Due.BEYOND, "pupil", 4);
        most.refuse(Due.BEYOND, "pupil", -1);
        most.refuse(Due.BEYOND, "pupil", LEAST);
        most.refuse(Due.BEYOND, "pupil", GREATEST);
        most.refuse(Due.FULL, "curve", 0, 0);
        most.refuse(Due.FULL, "curve", 6, 100);
        most.refuse(Due.BEYOND, "curve", 7, 0);
        most.refuse(Due.BEYOND, "curve", -1, 0);
        most.refuse(Due.BEYOND, "curve", 0, 101);
        most.refuse(Due.BEYOND, "curve", 0, -1);
        most.refuse(Due.STATE, "moves", 5, 0);
        most.refuse(Due.STATE, "moves", 0, 40);
        most.refuse(Due.BEYOND, "moves", 6, 40);
        most.refuse(Due.BEYOND, "moves", -1, 40);
        most.refuse(Due.BEYOND, "moves", 0, 41);
        most.refuse(Due.BEYOND, "moves", 0, -1);
        for (int n = 1; n <= 4; n++) {
            most.refuse(Due.FULL, "feed", 'x', n);
        }
        for (int n : new int[] {LEAST, -4, -1, 0, 5, GREATEST}) {
            most.refuse(Due.BEYOND, "feed", 'x', n);
        }
    }

    /** BEYOND is told ahead of NONE. */
    private static void curveAheadOfNone() {
        nobody.refuse(Due.BEYOND, "middle", 2);
        nobody.refuse(Due.BEYOND, "middle", -1);
        nobody.refuse(Due.BEYOND, "breaks", 2);
        nobody.refuse(Due.BEYOND, "gainsBy", 2, 0);
        nobody.refuse(Due.BEYOND, "without", 2, 0);
        nobody.refuse(Due.BEYOND, "without", 0, 8);
        nobody.refuse(Due.BEYOND, "without", 0, -1);
        nobody.refuse(Due.BEYOND, "line", 2, 12);
        nobody.refuse(Due.BEYOND, "line", 0, 13);
        nobody.refuse(Due.BEYOND, "byFor", 2, 400);
        some.refuse(Due.BEYOND, "gainsBy", 0, 5);
        some.refuse(Due.BEYOND, "byFor", 0, 401);
        some.refuse(Due.BEYOND, "line", 0, 13);
        fresh.refuse(Due.BEYOND, "kindest", 401);
        fresh.refuse(Due.BEYOND, "kindest", -1);
        fresh.refuse(Due.BEYOND, "kindest", LEAST);
        fresh.refuse(Due.BEYOND, "kindest", GREATEST);
    }

    /** BEYOND, then MISSING, then KIND. */
    private static void twoOfSpots() {
        some.refuse(Due.MISSING, "as", 1, 0);
        some.refuse(Due.MISSING, "as", 8, 6);
        some.refuse(Due.BEYOND, "as", 1, 7);
        some.refuse(Due.BEYOND, "as", 1, -1);
        some.refuse(Due.BEYOND, "as", 10, 7);
        some.refuse(Due.BEYOND, "as", -1, 0);
        some.refuse(Due.KIND, "as", 0, 1);
        some.refuse(Due.KIND, "as", 0, 3);
        some.refuse(Due.KIND, "as", 3, 6);
        some.refuse(Due.BEYOND, "as", 0, 7);
        some.refuse(Due.BEYOND, "hold", 10, 3);
        some.refuse(Due.BEYOND, "hold", 10, -1);
        fresh.refuse(Due.MISSING, "as", 0, 0);
        fresh.refuse(Due.MISSING, "as", 9, 6);
    }

    /** BEYOND of sheet and bits, then SIZE, then BEYOND of n: counted as what they are. */
    private static void twoOfSheet() {
        some.refuse(Due.BEYOND, "sheet", 4, 8, -1);
        some.refuse(Due.BEYOND, "sheet", -1, 0, -1);
        some.refuse(Due.BEYOND, "sheet", LEAST, 9, LEAST);
        some.refuse(Due.BEYOND, "sheet", 0, 9, -1);
        some.refuse(Due.BEYOND, "sheet", 0, -8, LEAST);
        some.refuse(Due.BEYOND, "sheet", 0, 9, 41);
        some.refuse(Due.SIZE, "sheet", 0, 0, -1);
        some.refuse(Due.SIZE, "sheet", 0, 0, LEAST);
        some.refuse(Due.SIZE, "sheet", 3, 32, -1);
        some.refuse(Due.BEYOND, "sheet", 0, 0, 41);
        some.refuse(Due.BEYOND, "sheet", 0, 0, GREATEST);
    }

    /** BEYOND of the sheet, then MISSING, then BEYOND of the number. */
    private static void twoOfWrite() {
        some.refuse(Due.BEYOND, "write", 4, 99, 0);
        some.refuse(Due.BEYOND, "write", -1, -1, 0);
        some.refuse(Due.MISSING, "write", 3, 99, 0);
        some.refuse(Due.MISSING, "write", 3, -1, 0);
        some.refuse(Due.MISSING, "write", 3, 0, 0);
        some.refuse(Due.BEYOND, "write", 0, 10, 0);
        some.refuse(Due.BEYOND, "write", 0, -1, 0);
    }

    /** BEYOND of the sheets, then MISSING, then KIND, then BEYOND of the numbers. */
    private static void twoOfCopy() {
        some.refuse(Due.BEYOND, "copy", 4, 0, 3, 0, -1);
        some.refuse(Due.BEYOND, "copy", 3, 0, 4, 0, -1);
        some.refuse(Due.BEYOND, "copy", 3, -1, -1, -1, -1);
        some.refuse(Due.BEYOND, "copy", -1, 0, -1, 0, 1);
        some.refuse(Due.MISSING, "copy", 3, 0, 1, 0, -1);
        some.refuse(Due.MISSING, "copy", 1, 0, 3, 0, -1);
        some.refuse(Due.MISSING, "copy", 3, -1, 3, 99, 1);
        some.refuse(Due.MISSING, "copy", 3, 0, 0, 0, 1);
        some.refuse(Due.MISSING, "copy", 0, 0, 3, 0, 1);
        some.refuse(Due.KIND, "copy", 0, 0, 1, 0, -1);
        some.refuse(Due.KIND, "copy", 1, 0, 0, 0, 99);
        some.refuse(Due.KIND, "copy", 1, -1, 2, 0, 1);
        some.refuse(Due.KIND, "copy", 1, 0, 2, LEAST, GREATEST);
        some.refuse(Due.KIND, "copy", 0, 0, 1, 0, 1);
        some.refuse(Due.KIND, "copy", 0, 0, 1, 0, 0);
        some.refuse(Due.BEYOND, "copy", 0, 0, 2, 0, -1);
        some.refuse(Due.BEYOND, "copy", 0, -1, 2, 0, 1);
        some.refuse(Due.BEYOND, "copy", 0, 0, 2, -1, 1);
        some.refuse(Due.BEYOND, "copy", 0, -1, 2, 0, 0);
        some.refuse(Due.BEYOND, "copy", 0, 0, 2, -1, 0);
        some.refuse(Due.BEYOND, "copy", 0, 0, 2, 0, 11);
        some.refuse(Due.BEYOND, "copy", 0, 10, 2, 0, 1);
        some.refuse(Due.BEYOND, "copy", 2, 0, 0, 10, 1);
        some.refuse(Due.BEYOND, "copy", 2, 0, 0, 0, 11);
        some.refuse(Due.BEYOND, "copy", 2, 40, 2, 0, 1);
    }

    /** BEYOND of the sheet, then MISSING, then BEYOND of pupil and marker, or of the curve. */
    private static void twoOfLoadAndJudge() {
        some.refuse(Due.BEYOND, "load", 4, 5, 2);
        some.refuse(Due.BEYOND, "load", -1, 0, 0);
        some.refuse(Due.MISSING, "load", 3, 5, 2);
        some.refuse(Due.MISSING, "load", 3, 0, 0);
        some.refuse(Due.MISSING, "load", 3, -1, -1);
        some.refuse(Due.BEYOND, "load", 0, 5, 0);
        some.refuse(Due.BEYOND, "load", 0, 0, 2);
        some.refuse(Due.BEYOND, "judge", 4, 3);
        some.refuse(Due.BEYOND, "judge", -1, 0);
        some.refuse(Due.MISSING, "judge", 3, 3);
        some.refuse(Due.MISSING, "judge", 3, 0);
        some.refuse(Due.MISSING, "judge", 3, -1);
        some.refuse(Due.BEYOND, "judge", 0, 3);
        fresh.refuse(Due.MISSING, "load", 0, 0, 0);
        fresh.refuse(Due.MISSING, "judge", 0, 0);
    }

    /** At first every sheet is MISSING, whatever else is wrong with the call. */
    private static void missingOnes() {
        for (int s = 0; s < 4; s++) {
            fresh.refuse(Due.MISSING, "write", s, 0, 0);
            fresh.refuse(Due.MISSING, "copy", s, 0, s, 0, 0);
            fresh.refuse(Due.MISSING, "load", s, 0, 0);
            fresh.refuse(Due.MISSING, "judge", s, 0);
        }
        for (int s : new int[] {LEAST, -1, 4, GREATEST}) {
            fresh.refuse(Due.BEYOND, "write", s, 0, 0);
            fresh.refuse(Due.BEYOND, "copy", s, 0, 0, 0, 0);
            fresh.refuse(Due.BEYOND, "copy", 0, 0, s, 0, 0);
            fresh.refuse(Due.BEYOND, "load", s, 0, 0);
            fresh.refuse(Due.BEYOND, "judge", s, 0);
        }
    }

    /** A sheet of no numbers is there, but has no number 0; one of 40 has a number 39. */
    private static void emptyAndFullSheet() {
        for (int bits : new int[] {8, 16, 32}) {
            MarkCurves x = States.NOBODY.make();
            due.is("an empty sheet", x.sheet(0, bits, 0), 0);
            due.is("has no number 0", x.write(0, 0, 0), Due.BEYOND);
            due.is("gives no number", x.copy(0, 0, 0, 0, 1), Due.BEYOND);
            due.is("gives none", x.copy(0, 0, 0, 0, 0), 0);
            due.is("are the marks of nobody", x.judge(0, 1), 0);
            x.pupil(0);
            due.is("aren't those of one", x.judge(0, 1), 1);
            due.is("loads nothing", x.load(0, 0, 0), 0);
            due.is("a full sheet", x.sheet(0, bits, 40), 40);
            due.is("has a number 39", x.write(0, 39, 1), 1);
            due.is("has no number 40", x.write(0, 40, 1), Due.BEYOND);
            due.is("gives all", x.copy(0, 0, 0, 0, 40), 40);
            due.is("gives no more", x.copy(0, 0, 0, 0, 41), Due.BEYOND);
            due.is("gives the last", x.copy(0, 39, 0, 0, 1), 1);
            due.is("takes the last", x.copy(0, 0, 0, 39, 1), 1);
            due.is("loads as many as questions", x.load(0, 0, 0), 8);
        }
    }
}
