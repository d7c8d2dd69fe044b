/** The boundary cases of promises 25 to 30 and of the terms that they use, a sentence each. */
public final class LinesEdgesTest {
    private static final Due due = new Due();

    public static void main(String[] args) {
        passOfNobody();
        passAtALine();
        passOfTwelve();
        lineOfNone();
        lineOfOneToTwelve();
        lineOfTooMany();
        lineAtTheEnds();
        heapAroundALine();
        heapAtTheEnds();
        heapOfMany();
        kindestOfNoCurves();
        kindestOfSeveral();
        kindestOfSix();
        byForOfNobody();
        byForTheEnds();
        byForFull();
        byForAllPupils();
        byForPlaces();
        byForDropped();
        byForKindsWithoutBy();
        lettersFromTo();
        lettersAtTheEnds();
        letterOfOne();
        due.end();
    }

    private static MarkCurves plain(int... raws) {
        MarkCurves x = Due.withRaws(raws);
        x.curve(0, 0);
        return x;
    }

    private static void passOfNobody() {
        MarkCurves x = plain();
        due.is("LINE 0", x.pass(0, 0), 0);
        due.is("LINE 400", x.pass(0, 400), 0);
    }

    private static void passAtALine() {
        MarkCurves x = plain(30, 31, 29, 0);
        due.is("LINE 0: a MARK of 0 isn't below it", x.pass(0, 0), 15);
        due.is("LINE 1", x.pass(0, 1), 7);
        due.is("one below", x.pass(0, 29), 7);
        due.is("at the LINE", x.pass(0, 30), 3);
        due.is("one above", x.pass(0, 31), 2);
        due.is("two above", x.pass(0, 32), 0);
    }

    private static void passOfTwelve() {
        MarkCurves x = plain(320, 0, 320, 0, 320, 0, 320, 0, 320, 0, 320, 320);
        due.is("all", x.pass(0, 0), 4095);
        due.is("the greatest MARK", x.pass(0, 320), 0b110101010101);
        due.is("more than that", x.pass(0, 321), 0);
        due.is("the greatest LINE", x.pass(0, 400), 0);
        due.is("no LINE", x.pass(0, 401), Due.BEYOND);
        due.is("no LINE below", x.pass(0, -1), Due.BEYOND);
    }

    private static void lineOfNone() {
        MarkCurves x = plain();
        due.is("0 of nobody pass every LINE", x.line(0, 0), 400);
        due.is("1 of nobody", x.line(0, 1), Due.NONE);
        due.is("12 of nobody", x.line(0, 12), Due.NONE);
        Due.addPupil(x, 0);
        due.is("0 of one", x.line(0, 0), 400);
        due.is("1 of one with nothing", x.line(0, 1), 0);
        due.is("2 of one", x.line(0, 2), Due.NONE);
    }

    private static void lineOfOneToTwelve() {
        MarkCurves x = plain(5, 40, 12, 33, 0, 7, 28, 19, 3, 36, 21, 9);
        int[] lines = {400, 40, 36, 33, 28, 21, 19, 12, 9, 7, 5, 3, 0};
        for (int n = 0; n <= 12; n++) {
            due.is("LINE of " + n, x.line(0, n), lines[n]);
        }
        MarkCurves y = plain(7, 7, 7, 4, 4, 9);
        int[] ofLikeMarks = {400, 9, 7, 7, 7, 4, 4};
        for (int n = 0; n <= 6; n++) {
            due.is("LINE of like MARKS, " + n, y.line(0, n), ofLikeMarks[n]);
        }
    }

    private static void lineOfTooMany() {
        MarkCurves x = plain(1, 2, 3, 4, 5, 6, 7, 8, 9, 10, 11);
        due.is("11 of 11", x.line(0, 11), 1);
        due.is("12 of 11", x.line(0, 12), Due.NONE);
        due.is("13 of 11", x.line(0, 13), Due.BEYOND);
        due.is("-1 of 11", x.line(0, -1), Due.BEYOND);
        Due.addPupil(x, 0);
        due.is("12 of 12", x.line(0, 12), 0);
        due.is("13 of 12", x.line(0, 13), Due.BEYOND);
    }

    private static void lineAtTheEnds() {
        MarkCurves x = plain(320, 320);
        due.is("the greatest MARK of all", x.line(0, 2), 320);
        x.turn(0, 1);
        x.by(0, 100);
        due.is("held at FULL", x.line(0, 1), 320);
        MarkCurves y = plain(0, 0);
        due.is("the least MARK of all", y.line(0, 2), 0);
    }

    private static void heapAroundALine() {
        MarkCurves x = plain(30);
        int[] heaps = {0, 1, 1, 1, -1, -1, -1, 0};
        for (int line = 27; line <= 34; line++) {
            due.is("a MARK of 30 at LINE " + line, x.heap(0, line), heaps[line - 27]);
        }
    }

    private static void heapAtTheEnds() {
        MarkCurves x = plain(0);
        int[] heaps = {1, -1, -1, -1, 0};
        for (int line = 0; line <= 4; line++) {
            due.is("a MARK of 0 at LINE " + line, x.heap(0, line), heaps[line]);
        }
        due.is("no LINE", x.heap(0, -1), Due.BEYOND);
        MarkCurves y = plain(2, 320);
        due.is("a MARK of 2 at LINE 0", y.heap(0, 0), 1);
        due.is("a MARK of 320 at LINE 318", y.heap(0, 318), 1);
        due.is("a MARK of 320 at LINE 321", y.heap(0, 321), -1);
        due.is("LINE 400", y.heap(0, 400), 0);
        due.is("no LINE 401", y.heap(0, 401), Due.BEYOND);
        due.is("of nobody", plain().heap(0, 0), 0);
    }

    private static void heapOfMany() {
        MarkCurves x = plain(27, 27, 28, 29, 29, 29, 30, 31, 32, 32, 33, 26);
        due.is("4 at it and above, 6 below", x.heap(0, 30), -2);
        due.is("12 of like MARKS", plain(9, 9, 9, 9, 9, 9, 9, 9, 9, 9, 9, 9).heap(0, 7), 12);
        due.is("12 below", plain(9, 9, 9, 9, 9, 9, 9, 9, 9, 9, 9, 9).heap(0, 12), -12);
    }

    private static void kindestOfNoCurves() {
        MarkCurves x = Due.withRaws(5);
        for (int line : new int[] {0, 1, 400}) {
            due.is("no CURVES", x.kindest(line), Due.NONE);
        }
        due.is("no CURVES, and no LINE", x.kindest(401), Due.BEYOND);
        due.is("no CURVES, and no LINE below", x.kindest(-1), Due.BEYOND);
        x.curve(0, 0);
        due.is("one CURVE that nobody passes by", x.kindest(400), 0);
    }

    private static void kindestOfSeveral() {
        MarkCurves x = Due.withRaws(10, 20, 30);
        x.curve(0, 0);
        x.curve(1, 1);
        x.curve(1, 1);
        due.is("all by all: the least number", x.kindest(10), 0);
        due.is("three for two", x.kindest(11), 1);
        due.is("nobody by any", x.kindest(32), 0);
        due.is("one for none", x.kindest(31), 1);
        x.by(2, 2);
        due.is("the last alone", x.kindest(32), 2);
    }

    private static void kindestOfSix() {
        MarkCurves x = new MarkCurves();
        for (int c = 0; c < 6; c++) {
            x.curve(1, 10 * c);
        }
        due.is("nobody is there", x.kindest(0), 0);
        x.pupil(0);
        for (int c = 0; c < 6; c++) {
            due.is("who gives just enough", x.kindest(10 * c), c);
        }
        due.is("who gives most, and it isn't enough", x.kindest(51), 0);
    }

    private static void byForOfNobody() {
        MarkCurves x = new MarkCurves();
        for (int kind = 1; kind <= 6; kind++) {
            x.curve(kind, 50);
            due.is("all of nobody pass", x.byFor(kind - 1, 0), 0);
            due.is("even the greatest LINE", x.byFor(kind - 1, 400), 0);
            due.is("but not one beyond", x.byFor(kind - 1, 401), Due.BEYOND);
        }
    }

    private static void byForTheEnds() {
        MarkCurves x = Due.withRaws(50);
        x.curve(1, 77);
        due.is("LINE 0", x.byFor(0, 0), 0);
        due.is("his RAW", x.byFor(0, 50), 0);
        due.is("one more", x.byFor(0, 51), 1);
        due.is("99 more", x.byFor(0, 149), 99);
        due.is("100 more", x.byFor(0, 150), 100);
        due.is("101 more", x.byFor(0, 151), Due.NONE);
        due.is("LINE 400", x.byFor(0, 400), Due.NONE);
        due.is("BY is as it was", x.curveOf(0, 1), 77);
    }

    private static void byForFull() {
        MarkCurves x = new MarkCurves();
        x.pupil(0);
        x.curve(1, 0);
        due.is("up to FULL", x.byFor(0, 80), 80);
        due.is("not above FULL", x.byFor(0, 81), Due.NONE);
    }

    private static void byForAllPupils() {
        MarkCurves x = Due.withRaws(50, 60, 70, 50, 50, 50, 50, 50, 50, 50, 50, 40);
        x.curve(1, 0);
        due.is("the last of twelve is the least", x.byFor(0, 60), 20);
        x.drop();
        due.is("without him", x.byFor(0, 60), 10);
    }

    private static void byForPlaces() {
        MarkCurves x = Due.withRaws(1, 2, 3, 4, 5, 6, 7, 8, 9, 10, 11, 12);
        x.curve(4, 50);
        due.is("30 for all", x.byFor(0, 30), 0);
        due.is("60 for the last", x.byFor(0, 31), 100);
        due.is("100 for the last", x.byFor(0, 100), 100);
        due.is("no more than 100", x.byFor(0, 101), Due.NONE);
        MarkCurves y = Due.withRaws(0, 0, 0, 0, 0, 0, 0, 0, 0, 0, 0, 0);
        y.curve(4, 50);
        due.is("60 for all at place 1", y.byFor(0, 60), 0);
        due.is("100 for all at place 1", y.byFor(0, 61), 9);
    }

    private static void byForDropped() {
        MarkCurves x = new MarkCurves();
        x.pupil(0);
        for (int q = 0; q < 8; q++) {
            Due.score(x, 0, q, 10 - q);
        }
        x.curve(6, 50);
        due.is("without question 0", x.byFor(0, 48), 0);
        due.is("without question 6", x.byFor(0, 54), 6);
        due.is("without question 7", x.byFor(0, 55), 6 + 1);
        due.is("without any", x.byFor(0, 57), Due.NONE);
    }

    private static void byForKindsWithoutBy() {
        for (int kind : new int[] {0, 2, 3, 5}) {
            MarkCurves x = Due.withRaws(100, 100);
            x.curve(kind, 50);
            due.is("what all have", x.byFor(0, 100), 0);
            due.is("one more", x.byFor(0, 101), Due.NONE);
        }
    }

    private static void lettersFromTo() {
        MarkCurves x = plain(30, 31, 32, 33, 34, 34);
        due.is("all between", x.letters(0, 31, 33), 3);
        due.is("(a) and (b) both count", x.letters(0, 30, 34), 6);
        due.is("above (a) alone", x.letters(0, 31, 34), 5);
        due.is("below (b) alone", x.letters(0, 30, 33), 4);
        due.is("nobody between", x.letters(0, 35, 400), 0);
        due.is("nobody below", x.letters(0, 0, 29), 0);
    }

    private static void lettersAtTheEnds() {
        MarkCurves x = plain(0, 320, 0, 320, 0, 320, 0, 320, 0, 320, 0, 320);
        due.is("all", x.letters(0, 0, 400), 12);
        due.is("those of 0", x.letters(0, 0, 0), 6);
        due.is("above 0", x.letters(0, 1, 400), 6);
        due.is("those of 320", x.letters(0, 320, 320), 6);
        due.is("those of 400", x.letters(0, 400, 400), 0);
        due.is("(a) below 0", x.letters(0, -1, 400), Due.BEYOND);
        due.is("(b) above 400", x.letters(0, 0, 401), Due.BEYOND);
        due.is("(a) above (b)", x.letters(0, 1, 0), Due.BEYOND);
        due.is("(a) 400 above (b) 399", x.letters(0, 400, 399), Due.BEYOND);
        due.is("of nobody", plain().letters(0, 0, 400), 0);
    }

    private static void letterOfOne() {
        MarkCurves x = plain(7, 8, 9);
        due.is("(a) and (b) alike", x.letters(0, 8, 8), 1);
        due.is("(a) above (b) by 1", x.letters(0, 9, 8), Due.BEYOND);
    }
}
