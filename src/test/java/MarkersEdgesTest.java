/** The boundary cases of promises 31 to 36 and of the terms that they use, a sentence each. */
public final class MarkersEdgesTest {
    private static final Due due = new Due();

    public static void main(String[] args) {
        leanOfNobody();
        leanTowardsNought();
        leanAtTheEnds();
        leanOfPointsNotScores();
        rightFromOneToForty();
        rightByN();
        rightOfAll();
        rightOfNobody();
        unlikeOfNobodyAndOne();
        unlikeOfSeveral();
        unlikeAtTheEnds();
        countsOfFew();
        countsOfTwelve();
        countsOfScores();
        heavyOfNothing();
        heavyOfSeveral();
        heavyOfTwelve();
        seedOfAnyInt();
        due.end();
    }

    private static MarkCurves pupils(int n) {
        MarkCurves x = Due.widePaper();
        for (int p = 0; p < n; p++) {
            x.pupil(0);
        }
        return x;
    }

    private static void leanOfNobody() {
        MarkCurves x = pupils(0);
        due.is("without any", x.lean(), 0);
        x.pupil(0);
        x.point(0, 0, 1, 1);
        due.is("of one", x.lean(), 100);
        x.drop();
        due.is("without any again", x.lean(), 0);
        due.is("it is no finding", x.status(-1), 0);
    }

    private static void leanTowardsNought() {
        MarkCurves x = pupils(3);
        x.point(1, 0, 1, 1);
        due.is("100 by 3", x.lean(), 33);
        x.point(1, 0, 0, 2);
        due.is("100 less than nothing by 3", x.lean(), -33);
        MarkCurves y = pupils(12);
        y.point(11, 7, 1, 1);
        due.is("100 by 12", y.lean(), 8);
        y.point(11, 7, 1, 0);
        y.point(0, 0, 0, 1);
        due.is("100 less than nothing by 12", y.lean(), -8);
        y.point(0, 0, 1, 1);
        due.is("alike", y.lean(), 0);
    }

    private static void leanAtTheEnds() {
        for (int marker = 0; marker < 2; marker++) {
            MarkCurves x = pupils(12);
            for (int p = 0; p < 12; p++) {
                for (int q = 0; q < 8; q++) {
                    x.point(p, q, marker, 40);
                }
            }
            due.is("320 each", x.lean(), marker == 1 ? 32000 : -32000);
        }
    }

    private static void leanOfPointsNotScores() {
        MarkCurves x = pupils(2);
        x.point(0, 0, 1, 1);
        x.point(0, 1, 1, 1);
        x.point(1, 2, 0, 1);
        due.is("1 by 2", x.lean(), 50);
    }

    private static void rightFromOneToForty() {
        MarkCurves x = pupils(1);
        due.is("0", x.right(0), Due.BEYOND);
        due.is("41", x.right(41), Due.BEYOND);
        x.point(0, 0, 1, 40);
        x.point(0, 1, 0, 40);
        x.point(0, 2, 1, 39);
        x.point(0, 3, 0, 39);
        x.point(0, 4, 0, 1);
        due.is("by 40 alone", x.right(40), 2);
        due.is("down by 40", x.point(0, 0, 1, 0), 0);
        due.is("up by 40", x.point(0, 1, 1, 40), 40);
        due.is("39 stays", x.point(0, 2, 1, 39), 39);
        due.is("39 less stays", x.point(0, 3, 1, 0), 0);
        due.is("by 1", x.right(1), 3);
        due.is("none is left", x.right(1), 0);
    }

    private static void rightByN() {
        for (int n = 1; n <= 40; n++) {
            MarkCurves x = pupils(2);
            x.point(0, 0, 0, n);
            x.point(0, 1, 0, n - 1);
            x.point(1, 6, 1, n);
            x.point(1, 7, 1, n - 1);
            due.is("as many as " + n, x.right(n), 2);
            due.is("less by n", x.point(0, 0, 1, 0), n);
            due.is("less by n - 1", x.point(0, 1, 1, 0), 0);
            due.is("more by n", x.point(1, 6, 1, 0), 0);
            due.is("more by n - 1", x.point(1, 7, 1, 0), n - 1);
            due.is("MARKER 0 is as it was", x.point(0, 0, 0, 0), n);
        }
    }

    private static void rightOfAll() {
        MarkCurves x = pupils(12);
        for (int p = 0; p < 12; p++) {
            for (int q = 0; q < 8; q++) {
                x.point(p, q, q % 2, 1 + p);
            }
        }
        due.is("all POINTS of all", x.right(1), 96);
        due.is("MARKERS don't lean then", x.lean(), 0);
        due.is("RAW of the last", x.pupilOf(11, 1), 48);
    }

    private static void rightOfNobody() {
        MarkCurves x = pupils(0);
        due.is("the least n", x.right(1), 0);
        due.is("the greatest n", x.right(40), 0);
    }

    private static void unlikeOfNobodyAndOne() {
        MarkCurves x = pupils(0);
        due.is("who, of nobody", x.unlike(0), Due.NONE);
        due.is("how much, of nobody", x.unlike(1), Due.NONE);
        x.pupil(0);
        due.is("who, of one", x.unlike(0), 0);
        due.is("how much, of one", x.unlike(1), 0);
        due.is("another what", x.unlike(2), Due.BEYOND);
        due.is("another what below", x.unlike(-1), Due.BEYOND);
    }

    private static void unlikeOfSeveral() {
        MarkCurves x = pupils(12);
        due.is("all alike: the least", x.unlike(0), 0);
        x.point(11, 7, 0, 1);
        due.is("the last by 1", x.unlike(0), 11);
        x.point(4, 2, 1, 1);
        due.is("two by 1: the least", x.unlike(0), 4);
        x.point(5, 0, 0, 1);
        x.point(5, 1, 1, 1);
        due.is("one more and one less are 2", x.unlike(0), 5);
        due.is("how much", x.unlike(1), 2);
    }

    private static void unlikeAtTheEnds() {
        MarkCurves x = pupils(12);
        for (int q = 0; q < 8; q++) {
            x.point(11, q, q % 2, 40);
            x.point(10, q, 0, q == 0 ? 39 : 40);
        }
        due.is("who", x.unlike(0), 11);
        due.is("how much", x.unlike(1), 320);
        x.drop();
        due.is("who then", x.unlike(0), 10);
        due.is("how much then", x.unlike(1), 319);
    }

    private static void countsOfFew() {
        MarkCurves x = pupils(0);
        due.is("of nobody", x.counts(0), 0);
        x.pupil(0);
        Due.score(x, 0, 0, 40);
        due.is("of one", x.counts(0), 0);
        x.pupil(0);
        due.is("of two", x.counts(0), 40);
        Due.score(x, 1, 0, 40);
        due.is("of two alike", x.counts(0), 0);
    }

    private static void countsOfTwelve() {
        MarkCurves x = pupils(12);
        for (int p = 0; p < 12; p += 2) {
            Due.score(x, p, 7, 40);
            Due.score(x, p + 1, 6, 1);
        }
        due.is("36 times 40", x.counts(7), 1440);
        due.is("36 times 1", x.counts(6), 36);
        due.is("nothing", x.counts(5), 0);
        for (int p = 0; p < 12; p++) {
            Due.score(x, p, 0, 3 * p);
        }
        due.is("3 times 286", x.counts(0), 858);
    }

    private static void countsOfScores() {
        MarkCurves x = pupils(2);
        x.point(0, 3, 0, 1);
        due.is("half a SCORE is none", x.counts(3), 0);
        x.point(1, 3, 1, 3);
        due.is("1 and a half is 1", x.counts(3), 1);
    }

    private static void heavyOfNothing() {
        due.is("of nobody", pupils(0).heavy(), 0);
        MarkCurves x = pupils(1);
        Due.score(x, 0, 5, 40);
        due.is("of one", x.heavy(), 0);
        x = pupils(2);
        due.is("of two without points", x.heavy(), 0);
        for (int q = 0; q < 8; q++) {
            Due.score(x, 0, q, 9);
        }
        due.is("of several the least", x.heavy(), 0);
    }

    private static void heavyOfSeveral() {
        MarkCurves x = pupils(2);
        Due.score(x, 0, 7, 1);
        due.is("the last question", x.heavy(), 7);
        Due.score(x, 1, 3, 1);
        due.is("of two the least", x.heavy(), 3);
        Due.score(x, 0, 6, 2);
        due.is("the one that counts most", x.heavy(), 6);
    }

    private static void heavyOfTwelve() {
        MarkCurves x = pupils(12);
        for (int p = 0; p < 12; p++) {
            Due.score(x, p, 0, 5);
        }
        due.is("all alike in each", x.heavy(), 0);
        due.is("in the first", x.counts(0), 0);
        Due.score(x, 11, 7, 1);
        due.is("one of twelve in the last", x.heavy(), 7);
        due.is("11 times 1", x.counts(7), 11);
        Due.score(x, 0, 0, 4);
        due.is("as much in the first", x.heavy(), 0);
        x.drop();
        due.is("the first then", x.counts(0), 10);
    }

    private static void seedOfAnyInt() {
        MarkCurves x = new MarkCurves();
        int was = 1;
        int[] any = {0, -1, Integer.MAX_VALUE, Integer.MIN_VALUE, -1000000, -1000001, -1000002, -1000003, -1000004,
            -1000005, -1000006, -1000007, -1000008, 1};
        for (int v : any) {
            due.is("what it was", x.seed(v), was);
            due.is("what it is", x.count(4), v);
            was = v;
        }
        for (int which = -1; which <= 6; which++) {
            due.is("z is no finding", x.status(which), 0);
        }
    }
}
