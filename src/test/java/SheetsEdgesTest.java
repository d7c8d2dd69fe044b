/** The boundary cases of promises 40 to 46 and of the terms that they use, a sentence each. */
public final class SheetsEdgesTest {
    private static final int LEAST = Integer.MIN_VALUE;
    private static final int GREATEST = Integer.MAX_VALUE;

    private static final Due due = new Due();

    public static void main(String[] args) {
        everySpot();
        everyCurveInASpot();
        asKinds();
        asKindThen();
        everySheetIsMissing();
        everySheet();
        sheetOfNoneToForty();
        sheetOfNoBits();
        sheetIsAllNought();
        numbersOfEightBits();
        numbersOfSixteenBits();
        numbersOfThirtyTwoBits();
        numbersWithTheirSign();
        writeToTheEnds();
        copyAll();
        copyNone();
        copyUpAndDown();
        copyToTheEnds();
        copyKeepsTheSign();
        copyBits();
        loadToTheEnds();
        loadEnds();
        loadUpToTheLastQuestion();
        loadOfNoWorth();
        judgeOfNobody();
        judgeOfTwelve();
        judgeFromTheFirstOn();
        judgeByACurve();
        due.end();
    }

    private static void everySpot() {
        MarkCurves x = new MarkCurves();
        x.curve(0, 0);
        for (int spot = 0; spot < 10; spot++) {
            due.is("nothing at first", x.as(spot, 0), Due.MISSING);
            due.is("it may hold nothing still", x.hold(spot, -1), 1);
            due.is("and something", x.hold(spot, 0), 1);
            due.is("which it does", x.as(spot, 0), 0);
            due.is("how many do", x.count(5), spot + 1);
        }
        due.is("no spot 10", x.hold(10, 0), Due.BEYOND);
        due.is("no spot -1", x.hold(-1, 0), Due.BEYOND);
        due.is("no spot 10 to ask", x.as(10, 0), Due.BEYOND);
        due.is("no spot -1 to ask", x.as(-1, 0), Due.BEYOND);
        for (int spot = 9; spot >= 0; spot--) {
            due.is("nothing again", x.hold(spot, -1), 1);
            due.is("which it is", x.as(spot, 0), Due.MISSING);
            due.is("how many are left", x.count(5), spot);
        }
    }

    private static void everyCurveInASpot() {
        MarkCurves x = new MarkCurves();
        for (int c = 0; c < 6; c++) {
            due.is("a CURVE that isn't there", x.hold(3, c), Due.BEYOND);
            x.curve(c, 0);
            due.is("one that is", x.hold(3, c), 1);
            due.is("which it holds instead", x.as(3, 0), c);
            due.is("one spot does", x.count(5), 1);
        }
        due.is("no CURVE 6", x.hold(3, 6), Due.BEYOND);
        due.is("no CURVE -2", x.hold(3, -2), Due.BEYOND);
        due.is("it holds what it held", x.as(3, 0), 5);
        due.is("two may hold one", x.hold(4, 5), 1);
        due.is("which they do", x.count(5), 2);
    }

    /** BENT under STRETCHED, LINKED under ADDED, all under CURVE; no kind is under one below it. */
    private static void asKinds() {
        int[][] under = {{0}, {0, 1}, {0, 2}, {0, 2, 3}, {0, 4}, {0, 1, 5}, {0, 6}};
        for (int kind = 0; kind <= 6; kind++) {
            MarkCurves x = new MarkCurves();
            x.curve(0, 0);
            x.curve(kind, 0);
            x.hold(0, 1);
            int found = 0;
            for (int wanted = 0; wanted <= 6; wanted++) {
                boolean is = found < under[kind].length && under[kind][found] == wanted;
                due.is(kind + " as " + wanted, x.as(0, wanted), is ? 1 : Due.KIND);
                found += is ? 1 : 0;
            }
            due.is("all found", found, under[kind].length);
            due.is("as 7", x.as(0, 7), Due.BEYOND);
            due.is("as -1", x.as(0, -1), Due.BEYOND);
        }
    }

    private static void asKindThen() {
        MarkCurves x = new MarkCurves();
        x.curve(3, 0);
        x.hold(0, 0);
        due.is("BENT as STRETCHED", x.as(0, 2), 0);
        x.turn(0, 5);
        due.is("LINKED as STRETCHED", x.as(0, 2), Due.KIND);
        due.is("LINKED as ADDED", x.as(0, 1), 0);
        x.turn(0, 1);
        due.is("ADDED as LINKED", x.as(0, 5), Due.KIND);
    }

    private static void everySheetIsMissing() {
        MarkCurves x = States.NOBODY.make();
        x.pupil(0);
        for (int s = 0; s < 4; s++) {
            due.is("write", x.write(s, 0, 0), Due.MISSING);
            due.is("copy", x.copy(s, 0, s, 0, 0), Due.MISSING);
            due.is("load", x.load(s, 0, 0), Due.MISSING);
            due.is("judge", x.judge(s, 0), Due.MISSING);
        }
    }

    private static void everySheet() {
        MarkCurves x = new MarkCurves();
        x.pupil(0);
        for (int s = 0; s < 4; s++) {
            due.is("its size", x.sheet(s, 8, s + 1), s + 1);
            due.is("its last number", x.write(s, s, 5 + s), 1);
            due.is("it has no more", x.write(s, s + 1, 0), Due.BEYOND);
        }
        for (int s = 0; s < 4; s++) {
            due.is("each is its own", x.load(s, 0, 0), s + 1);
            due.is("with its number", x.point(0, s, 0, 0), 5 + s);
        }
        due.is("no sheet 4", x.sheet(4, 8, 1), Due.BEYOND);
        due.is("no sheet -1", x.sheet(-1, 8, 1), Due.BEYOND);
    }

    private static void sheetOfNoneToForty() {
        for (int bits : new int[] {8, 16, 32}) {
            for (int n = 0; n <= 40; n++) {
                MarkCurves x = new MarkCurves();
                due.is("a sheet of " + n, x.sheet(2, bits, n), n);
                due.is("one ahead of its end", x.write(2, n - 1, 0), n == 0 ? Due.BEYOND : 1);
                due.is("its end", x.write(2, n, 0), Due.BEYOND);
            }
            MarkCurves x = new MarkCurves();
            due.is("41", x.sheet(2, bits, 41), Due.BEYOND);
            due.is("-1", x.sheet(2, bits, -1), Due.SIZE);
            due.is("it is MISSING still", x.write(2, 0, 0), Due.MISSING);
        }
    }

    private static void sheetOfNoBits() {
        MarkCurves x = new MarkCurves();
        due.is("one that is MISSING", x.sheet(0, 0, 7), 0);
        due.is("is MISSING", x.write(0, 0, 0), Due.MISSING);
        x.sheet(0, 8, 7);
        due.is("one that isn't, -1", x.sheet(0, 0, -1), Due.SIZE);
        due.is("one that isn't, 41", x.sheet(0, 0, 41), Due.BEYOND);
        due.is("it is there", x.write(0, 6, 0), 1);
        due.is("one that isn't, 40", x.sheet(0, 0, 40), 0);
        due.is("it is MISSING then", x.write(0, 6, 0), Due.MISSING);
        due.is("0 of them", x.sheet(0, 0, 0), 0);
        due.is("an empty one", x.sheet(0, 8, 0), 0);
        due.is("isn't MISSING", x.write(0, 0, 0), Due.BEYOND);
    }

    private static void sheetIsAllNought() {
        MarkCurves x = new MarkCurves();
        x.pupil(0);
        for (int bits : new int[] {8, 16, 32}) {
            x.sheet(0, bits, 8);
            due.is("all 0", sumLoaded(x, 0), 0);
            for (int i = 0; i < 8; i++) {
                x.write(0, i, 10);
            }
            due.is("all 10", sumLoaded(x, 0), 80);
            x.sheet(0, bits, 4);
            due.is("a new one is all 0", sumLoaded(x, 0), 40);
            x.sheet(0, bits, 8);
            due.is("with what is behind", sumLoaded(x, 0), 0);
        }
    }

    private static int sumLoaded(MarkCurves x, int s) {
        x.load(s, 0, 0);
        x.load(s, 0, 1);
        return x.pupilOf(0, 1);
    }

    /** What number 0 of a sheet is, if it is 0 to 40; else -1. */
    private static int numberOf(int bits, int v) {
        MarkCurves x = Due.widePaper();
        x.pupil(0);
        x.sheet(1, bits, 1);
        due.is("any int", x.write(1, 0, v), 1);
        return x.load(1, 0, 0) == 1 ? x.point(0, 0, 0, 0) : -1;
    }

    private static void numbersOfEightBits() {
        int[] written = {0, 40, 256, 256 + 40, -256, -256 + 7, 65536 + 9, LEAST, LEAST + 40, GREATEST - 255 + 3};
        int[] are = {0, 40, 0, 40, 0, 7, 9, 0, 40, 3};
        for (int i = 0; i < written.length; i++) {
            due.is(written[i] + " in 8 bits", numberOf(8, written[i]), are[i]);
        }
        for (int v : new int[] {-1, 41, 127, 128, 255, 511, -128, -129, -255 - 2, GREATEST}) {
            due.is(v + " in 8 bits is none of 0 to 40", numberOf(8, v), -1);
        }
    }

    private static void numbersOfSixteenBits() {
        int[] written = {0, 40, 65536, 65536 + 40, -65536, -65536 + 7, LEAST, LEAST + 40, GREATEST - 65535 + 3};
        int[] are = {0, 40, 0, 40, 0, 7, 0, 40, 3};
        for (int i = 0; i < written.length; i++) {
            due.is(written[i] + " in 16 bits", numberOf(16, written[i]), are[i]);
        }
        for (int v : new int[] {-1, 41, 256, 256 + 40, 32767, 32768, 65535, -32768, -256 + 7, GREATEST}) {
            due.is(v + " in 16 bits is none of 0 to 40", numberOf(16, v), -1);
        }
    }

    private static void numbersOfThirtyTwoBits() {
        due.is("0 in 32 bits", numberOf(32, 0), 0);
        due.is("40 in 32 bits", numberOf(32, 40), 40);
        for (int v : new int[] {-1, 41, 256 + 40, 65536 + 40, -65536 + 7, LEAST, LEAST + 40, GREATEST}) {
            due.is(v + " in 32 bits is none of 0 to 40", numberOf(32, v), -1);
        }
    }

    /** MARKS of 127, 128, 255 and 256 against numbers that are written so. */
    private static void numbersWithTheirSign() {
        int[] marks = {127, 128, 255, 256, 320};
        for (int bits : new int[] {8, 16, 32}) {
            for (int mark : marks) {
                MarkCurves x = Due.withRaws(mark);
                x.curve(0, 0);
                x.sheet(0, bits, 1);
                x.write(0, 0, mark);
                boolean same = bits > 8 || mark < 128;
                due.is(mark + " in " + bits + " bits", x.judge(0, 0), same ? 0 : 1);
                x.write(0, 0, mark + 65536);
                due.is(mark + " and 65536 in " + bits + " bits", x.judge(0, 0), same && bits < 32 ? 0 : 1);
            }
        }
    }

    private static void writeToTheEnds() {
        MarkCurves x = new MarkCurves();
        x.sheet(3, 32, 40);
        due.is("the first", x.write(3, 0, LEAST), 1);
        due.is("the last", x.write(3, 39, GREATEST), 1);
        due.is("number 40", x.write(3, 40, 0), Due.BEYOND);
        due.is("number -1", x.write(3, -1, 0), Due.BEYOND);
        due.is("the least int", x.write(3, LEAST, 0), Due.BEYOND);
        due.is("the greatest int", x.write(3, GREATEST, 0), Due.BEYOND);
    }

    private static MarkCurves fortyAndTen() {
        MarkCurves x = Due.widePaper();
        x.pupil(0);
        x.sheet(0, 8, 40);
        for (int i = 0; i < 40; i++) {
            x.write(0, i, i + 1);
        }
        x.sheet(1, 8, 10);
        return x;
    }

    /** Number i of a sheet, by way of sheet 3. */
    private static int number(MarkCurves x, int s, int i) {
        x.sheet(3, 8, 1);
        x.copy(s, i, 3, 0, 1);
        x.load(3, 0, 0);
        return x.point(0, 0, 0, 0);
    }

    private static void copyAll() {
        MarkCurves x = fortyAndTen();
        x.sheet(2, 8, 40);
        due.is("all 40", x.copy(0, 0, 2, 0, 40), 40);
        for (int i = 0; i < 40; i++) {
            due.is("number " + i, number(x, 2, i), i + 1);
        }
        due.is("41", x.copy(0, 0, 2, 0, 41), Due.BEYOND);
        due.is("40 from 1", x.copy(0, 1, 2, 0, 40), Due.BEYOND);
        due.is("40 to 1", x.copy(0, 0, 2, 1, 40), Due.BEYOND);
    }

    private static void copyNone() {
        MarkCurves x = fortyAndTen();
        due.is("none", x.copy(0, 0, 1, 0, 0), 0);
        due.is("none from the end", x.copy(0, 40, 1, 0, 0), 0);
        due.is("none to the end", x.copy(0, 0, 1, 10, 0), 0);
        due.is("none from below 0", x.copy(0, -1, 1, 0, 0), Due.BEYOND);
        due.is("none to below 0", x.copy(0, 0, 1, -1, 0), Due.BEYOND);
        x.sheet(2, 8, 0);
        due.is("none of nothing", x.copy(2, 0, 2, 0, 0), 0);
        due.is("one of nothing", x.copy(2, 0, 1, 0, 1), Due.BEYOND);
        due.is("one to nothing", x.copy(0, 0, 2, 0, 1), Due.BEYOND);
    }

    private static void copyUpAndDown() {
        MarkCurves x = fortyAndTen();
        due.is("up by one", x.copy(0, 0, 0, 1, 39), 39);
        int[] up = {1, 1, 2, 3};
        for (int i = 0; i < 4; i++) {
            due.is("number " + i, number(x, 0, i), up[i]);
        }
        due.is("number 39", number(x, 0, 39), 39);
        due.is("down by two", x.copy(0, 2, 0, 0, 38), 38);
        int[] down = {2, 3, 4, 5};
        for (int i = 0; i < 4; i++) {
            due.is("number " + i + " then", number(x, 0, i), down[i]);
        }
        int[] last = {39, 38, 39};
        for (int i = 0; i < 3; i++) {
            due.is("number " + (37 + i) + " then", number(x, 0, 37 + i), last[i]);
        }
        due.is("onto itself", x.copy(0, 0, 0, 0, 40), 40);
        due.is("it stays", number(x, 0, 3), 5);
    }

    private static void copyToTheEnds() {
        MarkCurves x = fortyAndTen();
        due.is("the last to the last", x.copy(0, 39, 1, 9, 1), 1);
        due.is("which it is", number(x, 1, 9), 40);
        due.is("what is ahead stays", number(x, 1, 8), 0);
        due.is("the last ten", x.copy(0, 30, 1, 0, 10), 10);
        due.is("the first of them", number(x, 1, 0), 31);
        due.is("eleven have no room", x.copy(0, 0, 1, 0, 11), Due.BEYOND);
        due.is("ten have none behind", x.copy(0, 0, 1, 1, 10), Due.BEYOND);
        due.is("beyond the last", x.copy(0, 31, 1, 0, 10), Due.BEYOND);
        due.is("the greatest from", x.copy(0, GREATEST, 1, 0, 1), Due.BEYOND);
        due.is("the greatest to", x.copy(0, 0, 1, GREATEST, 1), Due.BEYOND);
        due.is("the greatest n", x.copy(0, 1, 1, 1, GREATEST), Due.BEYOND);
        due.is("all of the greatest", x.copy(0, GREATEST, 1, GREATEST, GREATEST), Due.BEYOND);
        due.is("all of the least", x.copy(0, LEAST, 1, LEAST, LEAST), Due.BEYOND);
        due.is("nothing came", number(x, 1, 0), 31);
    }

    private static void copyKeepsTheSign() {
        MarkCurves x = Due.withRaws(200);
        x.curve(0, 0);
        for (int bits : new int[] {8, 16, 32}) {
            x.sheet(0, bits, 1);
            x.sheet(1, bits, 2);
            x.write(0, 0, 200);
            x.copy(0, 0, 1, 1, 1);
            x.copy(1, 1, 0, 0, 1);
            due.is("200 in " + bits + " bits", x.judge(0, 0), bits == 8 ? 1 : 0);
        }
    }

    private static void copyBits() {
        int[] bits = {8, 16, 32};
        for (int of : bits) {
            for (int to : bits) {
                MarkCurves x = new MarkCurves();
                x.sheet(0, of, 2);
                x.sheet(1, to, 2);
                due.is(of + " bits to " + to, x.copy(0, 0, 1, 0, 2), of == to ? 2 : Due.KIND);
            }
        }
    }

    private static void loadToTheEnds() {
        for (int worth : new int[] {0, 1, 10, 39, 40}) {
            MarkCurves x = new MarkCurves();
            x.pupil(0);
            x.worth(0, worth);
            x.sheet(0, 32, 1);
            x.write(0, 0, worth);
            due.is("as many as WORTH", x.load(0, 0, 0), 1);
            due.is("came", x.point(0, 0, 0, 0), worth);
            for (int v : new int[] {worth + 1, -1, LEAST, GREATEST}) {
                x.write(0, 0, v);
                due.is(v + " of " + worth, x.load(0, 0, 0), 0);
                due.is("didn't come", x.point(0, 0, 0, 0), 0);
            }
        }
    }

    private static void loadEnds() {
        for (int at = 0; at < 8; at++) {
            MarkCurves x = new MarkCurves();
            x.pupil(0);
            x.pupil(0);
            x.sheet(0, 16, 40);
            for (int q = 0; q < 8; q++) {
                x.write(0, q, q == at ? 11 : 10);
                x.point(1, q, 1, 3);
                x.point(1, q, 0, 4);
            }
            due.is("as many as came", x.load(0, 1, 1), at);
            for (int q = 0; q < 8; q++) {
                due.is("those ahead came", x.point(1, q, 1, 0), q < at ? 10 : 3);
                due.is("by that MARKER alone", x.point(1, q, 0, 0), 4);
            }
            due.is("to that PUPIL alone", x.pupilOf(0, 1), 0);
        }
    }

    private static void loadUpToTheLastQuestion() {
        for (int n : new int[] {0, 1, 7, 8, 9, 40}) {
            MarkCurves x = new MarkCurves();
            x.pupil(0);
            x.sheet(0, 8, n);
            for (int i = 0; i < n; i++) {
                x.write(0, i, 2);
            }
            due.is("of " + n, x.load(0, 0, 0), Math.min(n, 8));
            due.is("RAW", x.pupilOf(0, 1), Math.min(n, 8));
        }
    }

    private static void loadOfNoWorth() {
        MarkCurves x = new MarkCurves();
        x.pupil(0);
        x.worth(1, 0);
        x.sheet(0, 8, 3);
        x.write(0, 0, 7);
        x.write(0, 2, 7);
        due.is("0 of 0", x.load(0, 0, 0), 3);
        x.write(0, 1, 1);
        due.is("1 of 0", x.load(0, 0, 1), 1);
    }

    private static void judgeOfNobody() {
        MarkCurves x = new MarkCurves();
        x.curve(0, 0);
        x.sheet(0, 8, 0);
        due.is("none of nobody", x.judge(0, 0), 0);
        x.sheet(0, 8, 1);
        due.is("one of nobody", x.judge(0, 0), 1);
        x.sheet(0, 8, 40);
        due.is("40 of nobody", x.judge(0, 0), 1);
        x.pupil(0);
        x.sheet(0, 8, 0);
        due.is("none of one", x.judge(0, 0), 1);
        x.sheet(0, 8, 1);
        due.is("one of one", x.judge(0, 0), 0);
    }

    private static void judgeOfTwelve() {
        MarkCurves x = Due.withRaws(1, 2, 3, 4, 5, 6, 7, 8, 9, 10, 11, 120);
        x.curve(0, 0);
        int[] sizes = {11, 12, 13, 40};
        int[] answers = {12, 0, 13, 13};
        for (int i = 0; i < sizes.length; i++) {
            x.sheet(0, 8, sizes[i]);
            for (int p = 0; p < 11; p++) {
                x.write(0, p, p + 1);
            }
            x.write(0, 11, 120);
            due.is(sizes[i] + " numbers, all right as far as there are PUPILS", x.judge(0, 0), answers[i]);
        }
        x.sheet(0, 8, 12);
        for (int p = 0; p < 11; p++) {
            x.write(0, p, p + 1);
        }
        due.is("the last one is wrong", x.judge(0, 0), 12);
    }

    private static void judgeFromTheFirstOn() {
        for (int wrong = 0; wrong < 5; wrong++) {
            MarkCurves x = Due.withRaws(5, 6, 7, 8, 9);
            x.curve(0, 0);
            x.sheet(0, 16, 5);
            for (int p = 0; p < 5; p++) {
                x.write(0, p, p == wrong ? 0 : 5 + p);
            }
            due.is("number " + wrong + " is wrong", x.judge(0, 0), 1 + wrong);
            x.write(0, wrong, 5 + wrong + 1);
            due.is("number " + wrong + " is too much", x.judge(0, 0), 1 + wrong);
            x.write(0, wrong, 5 + wrong);
            due.is("all are right", x.judge(0, 0), 0);
        }
    }

    private static void judgeByACurve() {
        MarkCurves x = Due.withRaws(10, 5);
        x.curve(0, 0);
        x.curve(2, 0);
        x.sheet(0, 8, 2);
        x.write(0, 0, 100);
        x.write(0, 1, 50);
        due.is("STRETCHED", x.judge(0, 1), 0);
        due.is("not RAW", x.judge(0, 0), 1);
        x.write(0, 0, 10);
        due.is("RAW of the first alone", x.judge(0, 0), 2);
    }
}
