/** The boundary cases of promises 18 to 24 and of the terms that they use, a sentence each. */
public final class KeepsEdgesTest {
    private static final Due due = new Due();

    public static void main(String[] args) {
        nobodyAndOne();
        likeRawIsNoBreak();
        likeMarkIsNoBreak();
        oneMoreIsABreak();
        breaksOfTwelve();
        firstOfSeveralBreaks();
        heapedOfTwelve();
        heapedOfLikeRaw();
        nobodyGains();
        gainsChangeNothing();
        movesNobody();
        movesUpToWorth();
        movesByBothMarkers();
        movesOfEleven();
        movesByOnePoint();
        movesByAPlace();
        movesByALink();
        withoutNobody();
        withoutLikeMarks();
        withoutByOne();
        withoutByMost();
        withoutOfTwelve();
        withoutWorth();
        withoutOfDropped();
        withoutOfLinked();
        due.end();
    }

    /** DROPPED without QUESTION 0, so that points in it raise RAW alone. */
    private static MarkCurves dropped(int... firstScores) {
        MarkCurves x = Due.withRaws(firstScores);
        x.curve(6, 0);
        return x;
    }

    private static void nobodyAndOne() {
        MarkCurves x = new MarkCurves();
        for (int kind = 1; kind <= 6; kind++) {
            x.curve(kind, 50);
        }
        for (int round = 0; round < 2; round++) {
            for (int c = 0; c < 6; c++) {
                due.is("it keeps ORDER", x.keeps(c), 1);
                due.is("it breaks nothing", x.breaks(c), Due.NONE);
                due.is("nobody is heaped", x.heaped(c), 0);
                due.is("nobody gains", x.gains(c), 0);
            }
            x.pupil(0);
            Due.score(x, 0, 0, 4);
        }
    }

    private static void likeRawIsNoBreak() {
        MarkCurves x = dropped(9, 0);
        Due.score(x, 1, 1, 9);
        Due.marksAre(due, x, 0, 0, 10);
        due.is("like RAW", x.keeps(0), 1);
        due.is("breaks nothing", x.breaks(0), Due.NONE);
        due.is("is no heap", x.heaped(0), 0);
        x.point(1, 1, 0, 8);
        due.is("one less RAW", x.keeps(0), 0);
        due.is("is a break", x.breaks(0), 1);
        x.point(1, 1, 0, 10);
        x.point(1, 1, 1, 10);
        due.is("one more RAW", x.keeps(0), 1);
        due.is("is none", x.breaks(0), Due.NONE);
    }

    private static void likeMarkIsNoBreak() {
        MarkCurves x = dropped(9, 3);
        Due.marksAre(due, x, 0, 0, 0);
        due.is("like MARKS", x.keeps(0), 1);
        due.is("break nothing", x.breaks(0), Due.NONE);
        due.is("but are a heap", x.heaped(0), 1);
    }

    private static void oneMoreIsABreak() {
        MarkCurves x = dropped(9, 3);
        Due.score(x, 1, 1, 1);
        Due.marksAre(due, x, 0, 0, 1);
        due.is("a MARK of 1 more", x.keeps(0), 0);
        due.is("is a break", x.breaks(0), 1);
        due.is("and no heap", x.heaped(0), 0);
        Due.score(x, 0, 2, 1);
        due.is("as is none of like MARKS", x.keeps(0), 1);
    }

    private static void breaksOfTwelve() {
        MarkCurves x = dropped(0, 0, 0, 0, 0, 0, 0, 0, 0, 0, 0, 5);
        due.is("all keep", x.breaks(0), Due.NONE);
        Due.score(x, 10, 1, 1);
        due.is("the last breaks with the one ahead of it", x.breaks(0), 1110);
        Due.score(x, 0, 1, 1);
        due.is("and with the first", x.breaks(0), 1100);
        Due.score(x, 11, 0, 0);
        Due.score(x, 0, 1, 0);
        Due.score(x, 0, 0, 6);
        due.is("the first with the one ahead of the last", x.breaks(0), 10);
        Due.score(x, 10, 1, 0);
        Due.score(x, 11, 1, 1);
        due.is("the first with the last", x.breaks(0), 11);
    }

    private static void firstOfSeveralBreaks() {
        MarkCurves x = dropped(0, 8, 6, 0);
        Due.score(x, 0, 1, 2);
        Due.score(x, 3, 1, 2);
        due.is("1 with 0 and 3, 2 with 0 and 3", x.breaks(0), 100);
        Due.score(x, 0, 1, 0);
        due.is("1 with 3, 2 with 3", x.breaks(0), 103);
        Due.score(x, 1, 0, 0);
        due.is("2 with 3", x.breaks(0), 203);
        Due.score(x, 2, 0, 0);
        due.is("none", x.breaks(0), Due.NONE);
    }

    private static void heapedOfTwelve() {
        MarkCurves x = Due.withRaws(0, 1, 2, 3, 4, 5, 6, 7, 8, 9, 10, 11);
        x.curve(4, 100);
        due.is("all two of twelve", x.heaped(0), 66);
        x.by(0, 99);
        due.is("the last stands apart", x.heaped(0), 55);
        x.turn(0, 0);
        due.is("no two", x.heaped(0), 0);
    }

    private static void heapedOfLikeRaw() {
        MarkCurves x = Due.withRaws(7, 7, 7, 7, 7, 7, 7, 7, 7, 7, 7, 7);
        x.curve(4, 100);
        due.is("like RAW", x.heaped(0), 0);
        Due.score(x, 11, 0, 8);
        due.is("one with another RAW", x.heaped(0), 11);
    }

    /** By the kinds that there are fewer points never give a greater MARK. */
    private static void nobodyGains() {
        MarkCurves x = Due.withRaws(320, 0, 1, 40, 41, 319, 7, 7, 160, 80, 81, 3);
        x.common(0, 400);
        x.common(7, 0);
        for (int c = 0; c < 6; c++) {
            x.curve(c + 1, 100);
        }
        for (int c = 0; c < 6; c++) {
            due.is("as a set", x.gains(c), 0);
            for (int p = 0; p < 12; p++) {
                due.is("each one", x.gainsBy(c, p), Due.NONE);
            }
        }
        MarkCurves y = Due.withRaws(320);
        y.curve(5, 0);
        for (int q = 0; q < 8; q++) {
            y.common(q, 399);
        }
        due.is("one alone, with all COMMON", y.gains(0), 0);
        due.is("by no number of points", y.gainsBy(0, 0), Due.NONE);
    }

    private static void gainsChangeNothing() {
        Twins some = new Twins(due, States.SOME);
        Twins most = new Twins(due, States.MOST);
        for (int c = 0; c < 3; c++) {
            some.changesNothing("gains", c);
            some.changesNothing("moves", c, 40);
            some.changesNothing("moves", c, 0);
            some.changesNothing("keeps", c);
            some.changesNothing("heaped", c);
            some.changesNothing("byFor", c, 0);
            some.refuse(Due.NONE, "gainsBy", c, 4);
        }
        for (int q = 0; q < 8; q++) {
            some.changesNothing("without", 0, q);
        }
        for (int c = 0; c < 6; c++) {
            most.changesNothing("gains", c);
            most.changesNothing("heaped", c);
            most.refuse(Due.NONE, "gainsBy", c, 11);
        }
    }

    private static void movesNobody() {
        MarkCurves x = new MarkCurves();
        for (int kind = 1; kind <= 6; kind++) {
            x.curve(kind, 50);
        }
        for (int c = 0; c < 6; c++) {
            due.is("nobody is there, no points", x.moves(c, 0), 0);
            due.is("nobody is there, most points", x.moves(c, 40), 0);
            due.is("41 points", x.moves(c, 41), Due.BEYOND);
            due.is("-1 points", x.moves(c, -1), Due.BEYOND);
        }
        x.pupil(0);
        due.is("STRETCHED of nothing stays", x.moves(1, 40), 0);
        due.is("nobody came", x.count(0), 1);
    }

    private static void movesUpToWorth() {
        MarkCurves x = Due.withRaws(100);
        x.curve(2, 0);
        x.worth(6, 0);
        x.worth(7, 0);
        x.worth(5, 1);
        due.is("5 times 19 and 1 is less", x.moves(0, 19), 0);
        due.is("5 times 20 and 1 is more", x.moves(0, 20), 1);
        x.worth(4, 19);
        due.is("4 times 20, 19 and 1 is as much", x.moves(0, 20), 0);
        due.is("4 times 21, 19 and 1 is more", x.moves(0, 21), 1);
    }

    private static void movesByBothMarkers() {
        MarkCurves x = Due.withRaws(8);
        x.curve(2, 0);
        due.is("1 point by both in each question is 8 RAW", x.moves(0, 1), 0);
        x.point(0, 0, 1, 7);
        due.is("which is more than 7", x.moves(0, 1), 1);
    }

    private static void movesOfEleven() {
        MarkCurves x = Due.withRaws(9, 8, 7, 6, 5, 4, 3, 2, 1, 10, 11);
        x.curve(2, 0);
        due.is("eleven move", x.moves(0, 40), 2047);
        due.is("there were eleven", x.count(0), 11);
        Due.addPupil(x, 0);
        due.is("there are 12", x.moves(0, 40), Due.STATE);
        due.is("no points, but there are 12", x.moves(0, 0), Due.STATE);
        due.is("41 points, and there are 12", x.moves(0, 41), Due.BEYOND);
        x.drop();
        due.is("there are eleven again", x.moves(0, 0), 0);
    }

    /** A set tells just whom: those of whom the MARK is another one, be it by 1. */
    private static void movesByOnePoint() {
        MarkCurves x = Due.withRaws(100, 1, 50, 0, 99);
        x.worth(7, 6);
        x.curve(2, 0);
        due.is("greatest 104 for 100", x.moves(0, 14), 1 + 2 + 4 + 16);
        Due.score(x, 0, 2, 23);
        Due.marksAre(due, x, 0, 100, 0, 48, 0, 96);
        due.is("greatest 104 for 103: 99, 0, 48, 0, 95", x.moves(0, 14), 1 + 16);
    }

    private static void movesByAPlace() {
        MarkCurves x = Due.withRaws(16, 8, 0);
        x.curve(4, 34);
        Due.marksAre(due, x, 0, 100, 60, 30);
        due.is("like the last", x.moves(0, 0), 0);
        due.is("like the second", x.moves(0, 1), 0);
        due.is("like the first: the second becomes 30", x.moves(0, 2), 2);
        due.is("ahead of the first: he becomes 60, the second 30", x.moves(0, 3), 3);
        x.by(0, 25);
        Due.marksAre(due, x, 0, 60, 30, 30);
        due.is("one more, so the first becomes 100, the second 60", x.moves(0, 1), 3);
        due.is("one more, like the first: he becomes 100", x.moves(0, 2), 1);
        due.is("one more, ahead of the first: he stays", x.moves(0, 3), 0);
    }

    private static void movesByALink() {
        MarkCurves x = Due.withRaws(10);
        x.curve(5, 0);
        x.common(0, 100);
        due.is("the mean stays", x.moves(0, 10), 0);
        due.is("the mean is 5 tenths more, cut towards 0", x.moves(0, 11), 0);
        due.is("the mean is 10 tenths more", x.moves(0, 12), 1);
        due.is("the mean is 5 tenths less", x.moves(0, 9), 0);
        due.is("the mean is 10 tenths less", x.moves(0, 8), 1);
    }

    private static void withoutNobody() {
        MarkCurves x = new MarkCurves();
        for (int kind = 1; kind <= 6; kind++) {
            x.curve(kind, 50);
            for (int q = 0; q < 8; q++) {
                due.is("nobody is there", x.without(kind - 1, q), Due.NONE);
            }
        }
    }

    private static void withoutLikeMarks() {
        MarkCurves x = Due.withRaws(30, 20);
        x.curve(2, 0);
        due.is("a question without points", x.without(0, 7), Due.NONE);
        x.turn(0, 0);
        due.is("a lesser MARK for one, a like one for none", x.without(0, 0), Due.NONE);
        x.drop();
        x.turn(0, 2);
        due.is("one alone has 100 and then nothing", x.without(0, 0), Due.NONE);
    }

    /** 99 of 100 STRETCHED becomes 100 of 100. */
    private static void withoutByOne() {
        MarkCurves x = Due.withRaws(100, 99);
        x.curve(2, 0);
        Due.score(x, 0, 2, 19);
        Due.score(x, 0, 3, 1);
        due.is("by 1", x.without(0, 3), 1);
        due.is("by none", x.without(0, 4), Due.NONE);
    }

    private static void withoutByMost() {
        MarkCurves x = Due.withRaws(40, 10, 20, 20);
        x.curve(2, 0);
        Due.score(x, 0, 0, 20);
        Due.score(x, 0, 1, 20);
        due.is("2 and 3 gain 50 both, 1 gains 25", x.without(0, 1), 2);
        Due.score(x, 3, 0, 19);
        Due.score(x, 3, 1, 1);
        Due.score(x, 2, 0, 18);
        due.is("3 gains 45, 2 gains 45", x.without(0, 1), 2);
        Due.score(x, 2, 0, 17);
        due.is("3 gains 45, 2 gains 43", x.without(0, 1), 3);
    }

    private static void withoutOfTwelve() {
        MarkCurves x = Due.withRaws(80, 0, 0, 0, 0, 0, 0, 0, 0, 0, 0, 1);
        x.curve(2, 0);
        due.is("the last of twelve", x.without(0, 1), 11);
        MarkCurves y = Due.withRaws(1, 0, 0, 0, 0, 0, 0, 0, 0, 0, 0, 80);
        y.curve(2, 0);
        due.is("the first of twelve", y.without(0, 1), 0);
    }

    private static void withoutWorth() {
        MarkCurves x = Due.withRaws(30, 20);
        x.curve(6, 1);
        x.worth(0, 0);
        due.is("a question that has no WORTH", x.without(0, 0), Due.NONE);
        for (int q = 2; q < 8; q++) {
            x.worth(q, 0);
        }
        x.worth(0, 40);
        Due.score(x, 0, 0, 4);
        due.is("nothing is left", x.without(0, 0), Due.NONE);
        MarkCurves y = Due.withRaws(280, 279);
        y.curve(6, 7);
        y.worth(7, 0);
        due.is("the dropped one, that has no WORTH", y.without(0, 7), Due.NONE);
        y.worth(7, 1);
        due.is("the dropped one, of WORTH 1", y.without(0, 7), Due.NONE);
    }

    /** FULL is less too: 80 times 30 by 70 is 34, and 70 times 30 by 60 is 35. */
    private static void withoutOfDropped() {
        MarkCurves x = new MarkCurves();
        x.curve(6, 0);
        Due.read(x, "pupil 0 0 10;pupil 0 0 0 10 10 10");
        Due.marksAre(due, x, 0, 11, 34);
        due.is("1 gains one", x.without(0, 1), 1);
        due.is("without the dropped one: 34 becomes 30", x.without(0, 0), Due.NONE);
        due.is("11 stays 11, 34 becomes 23", x.without(0, 2), Due.NONE);
    }

    /** OLD stays, and NEW MEAN falls: those without points in the question gain. */
    private static void withoutOfLinked() {
        MarkCurves x = Due.withRaws(40, 5, 0);
        x.curve(5, 0);
        x.common(0, 150);
        x.point(1, 0, 0, 0);
        x.point(1, 0, 1, 0);
        Due.score(x, 1, 1, 5);
        Due.marksAre(due, x, 0, 41, 6, 1);
        due.is("6 becomes 20, 1 becomes 15: the first of them", x.without(0, 0), 1);
        x.common(1, 0);
        Due.marksAre(due, x, 0, 40, 5, 0);
        due.is("40 becomes 41, 0 becomes 1: the first of them", x.without(0, 1), 0);
    }
}
