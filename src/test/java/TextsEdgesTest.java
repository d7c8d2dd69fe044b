import java.util.List;

/** The boundary cases of promises 37 to 39 and of the terms that they use, a sentence each. */
public final class TextsEdgesTest {
    private static final String[] CURVE_WORDS = {"curve", "added", "stretched", "bent", "shared", "linked",
        "dropped"};

    private static final Due due = new Due();

    public static void main(String[] args) {
        feedFromOneToFour();
        feedTakesTheLowestBytes();
        feedOfAnyInt();
        feedUpToTheMost();
        tapeGoesOnBehindAFullOne();
        wipeOfNothingAndOfAll();
        noByteIsNoText();
        textOfTheMostBytes();
        faultsOfTheMostBytes();
        textLeavesTheTapeEmpty();
        questionToTheEnds();
        commonToTheEnds();
        byToTheEnds();
        classToTheEnds();
        pointsToTheEnds();
        pointsByBothMarkers();
        eightPointsAtMost();
        worthAsItIsByThen();
        numbersOfManyDigits();
        tokensAsLongAsCanBe();
        anotherWord();
        bytesBehindAWord();
        bytesBehindANumber();
        blanksMayStandBetween();
        everyWordOfACurve();
        aSeventhCurve();
        aThirteenthPupil();
        theFirstFaultIsTold();
        itEndsTooEarly();
        aFaultChangesNothing();
        anItemHoldsForTheNext();
        due.end();
    }

    private static void reads(MarkCurves x, String text, int items) {
        due.is("'" + text + "'", Due.read(x, text), items);
        due.is("the tape then", x.count(3), 0);
    }

    private static void faulty(MarkCurves x, String text, int place) {
        reads(x, text, -1 - place);
        due.is("a FAULT is no finding", x.status(-1), 0);
    }

    private static void alone(String text, int items) {
        reads(new MarkCurves(), text, items);
    }

    private static void fault(String text, int place) {
        faulty(new MarkCurves(), text, place);
    }

    private static void feedFromOneToFour() {
        MarkCurves x = new MarkCurves();
        due.is("n 0", x.feed('b', 0), Due.BEYOND);
        due.is("n 5", x.feed('b', 5), Due.BEYOND);
        due.is("n 1", x.feed('b', 1), 1);
        due.is("n 2", x.feed('e' << 8 | 'n', 2), 3);
        due.is("n 3", x.feed('t' << 16 | ';' << 8 | 'c', 3), 6);
        due.is("n 4", x.feed('u' << 24 | 'r' << 16 | 'v' << 8 | 'e', 4), 10);
        due.is("bent;curve", x.text(), 2);
        due.is("the first", x.curveOf(0, 0), 3);
        due.is("the second", x.curveOf(1, 0), 0);
    }

    private static void feedTakesTheLowestBytes() {
        MarkCurves x = new MarkCurves();
        int number = 'b' << 24 | 'e' << 16 | 'n' << 8 | 't';
        x.feed(number >> 8, 3);
        x.feed(number, 1);
        due.is("ben and t", x.text(), 1);
        x.feed(number >>> 24, 1);
        x.feed(number, 3);
        due.is("b and ent", x.text(), 1);
        x.feed(number >>> 16, 2);
        x.feed(number, 2);
        due.is("be and nt", x.text(), 1);
        x.feed(number, 4);
        due.is("bent", x.text(), 1);
        due.is("four of them", x.count(1), 4);
    }

    private static void feedOfAnyInt() {
        int had = 0;
        MarkCurves x = new MarkCurves();
        for (int bytes : new int[] {0, 255, 256, -1, -256, Integer.MIN_VALUE, Integer.MAX_VALUE}) {
            for (int n = 1; n <= 4; n++) {
                had += n;
                due.is("any int", x.feed(bytes, n), had);
            }
        }
        x.wipe();
        x.feed(-256 | ' ', 1);
        Due.feed(x, "bent");
        due.is("of a number below 0 the lowest byte alone", x.text(), 1);
    }

    private static void feedUpToTheMost() {
        for (int already = 113; already <= 120; already++) {
            for (int n = 1; n <= 4; n++) {
                MarkCurves x = new MarkCurves();
                for (int i = 0; i < already; i++) {
                    x.feed(' ', 1);
                }
                boolean fits = already + n <= 120;
                due.is(n + " behind " + already, x.feed(0x20202020, n), fits ? already + n : Due.FULL);
                due.is("how many it has", x.count(3), fits ? already + n : already);
                due.is("how often it was FULL", x.status(1), fits ? 0 : 1);
            }
        }
    }

    private static void tapeGoesOnBehindAFullOne() {
        MarkCurves x = States.MOST.make();
        due.is("120", x.count(3), 120);
        due.is("n 0 of a full one", x.feed(0, 0), Due.BEYOND);
        due.is("n 1 of a full one", x.feed(0, 1), Due.FULL);
        due.is("all of it", x.wipe(), 120);
        due.is("n 4 then", x.feed(0, 4), 4);
    }

    private static void wipeOfNothingAndOfAll() {
        MarkCurves x = new MarkCurves();
        due.is("nothing", x.wipe(), 0);
        x.feed(0, 1);
        due.is("one", x.wipe(), 1);
        due.is("nothing again", x.wipe(), 0);
        for (int i = 0; i < 30; i++) {
            x.feed(0, 4);
        }
        due.is("the most", x.wipe(), 120);
        due.is("none then", x.count(3), 0);
    }

    private static void noByteIsNoText() {
        fault("", 0);
        fault(" ", 1);
        MarkCurves x = new MarkCurves();
        x.feed(0, 4);
        x.wipe();
        due.is("a wiped tape", x.text(), -1);
    }

    private static String repeat(String text, int times) {
        StringBuilder all = new StringBuilder();
        for (int i = 0; i < times; i++) {
            all.append(text);
        }
        return all.toString();
    }

    /** Pads a text with blanks ahead of its last byte, so that it has so many. */
    private static String padded(String text, int bytes) {
        int last = text.length() - 1;
        return text.substring(0, last) + repeat(" ", bytes - text.length()) + text.substring(last);
    }

    private static void textOfTheMostBytes() {
        MarkCurves x = new MarkCurves();
        String most = repeat("pupil3;", 12) + repeat("bent;", 5) + "bent";
        reads(x, most + repeat(" ", 120 - most.length()), 18);
        due.is("12 PUPILS", x.count(0), 12);
        due.is("6 CURVES", x.count(1), 6);
        reads(x, padded("question 7 worth 4", 120), 1);
        due.is("the last byte counts", x.worth(7, 10), 4);
        reads(x, padded("question 7 worth 4", 119), 1);
    }

    private static void faultsOfTheMostBytes() {
        fault(repeat(" ", 120), 120);
        fault(repeat(" ", 119), 119);
        fault(padded("bent;", 120), 120);
        fault(padded("bent$", 120), 119);
        fault(padded("bent5", 120), 119);
        fault(padded("question 7 worth", 120), 11);
        fault(repeat("a", 120), 0);
        fault(repeat("1", 120), 0);
        fault("bent by " + repeat("9", 112), 8);
        fault(repeat(";", 120), 0);
    }

    private static void textLeavesTheTapeEmpty() {
        MarkCurves x = new MarkCurves();
        reads(x, "bent", 1);
        due.is("nothing is left to read", x.text(), -1);
        reads(x, "bends", -1);
        due.is("nor after a FAULT", x.wipe(), 0);
        due.is("one byte then", x.feed(0, 1), 1);
    }

    private static void questionToTheEnds() {
        MarkCurves x = new MarkCurves();
        reads(x, "question 0 worth 0", 1);
        reads(x, "question 7 worth 40", 1);
        due.is("WORTH 0", x.worth(0, 0), 0);
        due.is("WORTH 40", x.worth(7, 40), 40);
        faulty(x, "question 8 worth 0", 9);
        faulty(x, "question 0 worth 41", 17);
        faulty(x, "question 999 worth 0", 9);
        faulty(x, "question 1000 worth 0", 9);
        due.is("FULL", x.paper(0), 6 * 10 + 40);
    }

    private static void commonToTheEnds() {
        MarkCurves x = new MarkCurves();
        reads(x, "common 0 0", 1);
        reads(x, "common 7 400", 1);
        due.is("COMMON ones", x.paper(5), 129);
        due.is("OLD 0", x.common(0, 0), 0);
        due.is("OLD 400", x.common(7, 400), 400);
        faulty(x, "common 8 0", 7);
        faulty(x, "common 0 401", 9);
        faulty(x, "common 0 999", 9);
        faulty(x, "common 0 1000", 9);
        faulty(x, "common 0 -1", 9);
        due.is("COMMON ones then", x.paper(5), 129);
    }

    private static void byToTheEnds() {
        MarkCurves x = new MarkCurves();
        reads(x, "shared by 0", 1);
        reads(x, "shared by 100", 1);
        reads(x, "shared", 1);
        int[] bys = {0, 100, 0};
        for (int c = 0; c < 3; c++) {
            due.is("BY", x.curveOf(c, 1), bys[c]);
        }
        faulty(x, "shared by 101", 10);
        faulty(x, "shared by", 9);
        faulty(x, "shared by;", 9);
        faulty(x, "shared 5", 7);
        due.is("no more came", x.count(1), 3);
    }

    private static void classToTheEnds() {
        MarkCurves x = new MarkCurves();
        reads(x, "pupil 0", 1);
        reads(x, "pupil 3", 1);
        due.is("CLASS 0", x.pupilOf(0, 0), 0);
        due.is("CLASS 3", x.pupilOf(1, 0), 3);
        faulty(x, "pupil 4", 6);
        faulty(x, "pupil", 5);
        faulty(x, "pupil;", 5);
        due.is("no more came", x.count(0), 2);
    }

    private static void pointsToTheEnds() {
        String ten = " 10";
        for (int n = 0; n <= 8; n++) {
            MarkCurves x = new MarkCurves();
            reads(x, "pupil 2" + repeat(ten, n), 1);
            for (int q = 0; q < 8; q++) {
                due.is("SCORE in " + q + " of " + n, x.pupilOf(0, 2 + q), q < n ? 10 : 0);
            }
            reads(x, "pupil 2" + repeat(" 0", n), 1);
            due.is("no RAW", x.pupilOf(1, 1), 0);
            if (n < 8) {
                faulty(x, "pupil 2" + repeat(ten, n) + " 11", 8 + 3 * n);
            }
        }
        for (int worth : new int[] {0, 1, 39, 40}) {
            MarkCurves x = new MarkCurves();
            x.worth(7, worth);
            reads(x, "pupil 1 0 0 0 0 0 0 0 " + worth, 1);
            due.is("as many as WORTH", x.pupilOf(0, 9), worth);
            faulty(x, "pupil 1 0 0 0 0 0 0 0 " + (worth + 1), 22);
        }
    }

    private static void pointsByBothMarkers() {
        MarkCurves x = new MarkCurves();
        reads(x, "pupil 0 1 2 3 4 5 6 7 8", 1);
        for (int q = 0; q < 8; q++) {
            due.is("by MARKER 0", x.point(0, q, 0, 0), q + 1);
            due.is("by MARKER 1", x.point(0, q, 1, 0), q + 1);
        }
    }

    private static void eightPointsAtMost() {
        alone("pupil 0 1 2 3 4 5 6 7 8", 1);
        fault("pupil 0 1 2 3 4 5 6 7 8 9", 24);
        fault("pupil 0 1 2 3 4 5 6 7 8 0", 24);
        fault("pupil 0 1 2 3 4 5 6 7 8 by", 24);
        alone("pupil 0 1 2 3 4 5 6 7 8;bent", 2);
    }

    private static void worthAsItIsByThen() {
        alone("question 0 worth 12;pupil 0 12", 2);
        fault("question 0 worth 12;pupil 0 13", 28);
        fault("pupil 0 11;question 0 worth 12", 8);
        alone("pupil 0 10;question 0 worth 9", 2);
        fault("question 0 worth 9;pupil 0 10", 27);
        alone("question 0 worth 9;question 0 worth 10;pupil 0 10", 3);
    }

    private static void numbersOfManyDigits() {
        MarkCurves x = new MarkCurves();
        reads(x, "common 007 0400", 1);
        due.is("leading noughts", x.common(7, 0), 400);
        reads(x, "common " + repeat("0", 50) + "7 " + repeat("0", 50) + "399", 1);
        due.is("a lot of them", x.common(7, 0), 399);
        for (String number : List.of("999", "1000", "65536", "2147483647", "2147483648", "4294967295", "4294967296",
                "4294967303", "18446744073709551616", "99999999999999999999999999999999999999999")) {
            fault("question " + number + " worth 1", 9);
            fault("common 0 " + number, 9);
            fault("bent by " + number, 8);
            fault("pupil " + number, 6);
            fault("pupil 0 " + number, 8);
        }
    }

    private static void tokensAsLongAsCanBe() {
        alone("question 1worth 2", 1);
        alone("bent by10", 1);
        fault("questionworth", 0);
        fault("question1worth2worth", 15);
        fault("bentby 3", 0);
        fault("pupil 0 1010", 8);
        fault("curvecurve", 0);
        fault("curv e", 0);
        fault("c urve", 0);
        fault("curves", 0);
        fault("curve b y 1", 6);
        MarkCurves x = new MarkCurves();
        reads(x, "pupil 0 1 0", 1);
        due.is("1 and 0", x.pupilOf(0, 1), 1);
        reads(x, "pupil 0 10", 1);
        due.is("10", x.pupilOf(1, 1), 10);
    }

    /** Each letter of each WORD counts. */
    private static void anotherWord() {
        String[] texts = {"question 1 worth 2", "common 1 2", "pupil 1 2", "curve by 3", "added by 3", "stretched by 3",
            "bent by 3", "shared by 3", "linked by 3", "dropped by 3"};
        for (String text : texts) {
            int begin = 0;
            for (int i = 0; i < text.length(); i++) {
                begin = i > 0 && text.charAt(i - 1) == ' ' ? i : begin;
                if (isLetter(text.charAt(i))) {
                    fault(text.substring(0, i) + 'x' + text.substring(i + 1), begin);
                }
            }
            alone(text, 1);
        }
    }

    private static boolean isLetter(int b) {
        return b >= 97 && b <= 122;
    }

    private static boolean isDigit(int b) {
        return b >= 48 && b <= 57;
    }

    private static void bytesBehindAWord() {
        for (int b = 0; b < 256; b++) {
            MarkCurves x = new MarkCurves();
            Due.feed(x, "bent");
            x.feed(b, 1);
            int want = isLetter(b) ? -1 : b == 32 ? 1 : b == 59 ? -6 : -5;
            due.is("byte " + b + " behind a WORD", x.text(), want);
        }
    }

    private static void bytesBehindANumber() {
        for (int b = 0; b < 256; b++) {
            MarkCurves x = new MarkCurves();
            Due.feed(x, "bent by 1");
            x.feed(b, 1);
            int want = isDigit(b) || b == 32 ? 1 : b == 59 ? -11 : -10;
            due.is("byte " + b + " behind a NUMBER", x.text(), want);
            if (isDigit(b)) {
                due.is("BY", x.curveOf(0, 1), 10 + b - 48);
            }
        }
    }

    private static void blanksMayStandBetween() {
        alone("pupil 1;common 2 3;question4worth5;shared by 6;bent", 5);
        alone("  pupil  1  2  ;  common  2  3  ;  question  4  worth  5  ;  shared  by  6  ;  bent  ", 5);
        fault("pup il 1", 0);
        fault("bent by 1 0", 10);
    }

    private static void everyWordOfACurve() {
        for (int kind = 0; kind < 7; kind++) {
            MarkCurves x = new MarkCurves();
            String word = CURVE_WORDS[kind];
            reads(x, word + ";" + word + " by 100", 2);
            for (int c = 0; c < 2; c++) {
                due.is("KIND of " + word, x.curveOf(c, 0), kind);
                due.is("BY of " + word, x.curveOf(c, 1), 100 * c);
            }
            faulty(x, word.substring(1), 0);
            faulty(x, word.substring(0, word.length() - 1), 0);
            faulty(x, word + "s", 0);
            faulty(x, word + " by 101", word.length() + 4);
        }
    }

    private static void aSeventhCurve() {
        for (String word : CURVE_WORDS) {
            MarkCurves x = new MarkCurves();
            reads(x, "curve;curve;curve;curve;curve", 5);
            faulty(x, "curve;" + word, 6);
            due.is("the 6th didn't come either", x.count(1), 5);
            reads(x, word, 1);
            faulty(x, word, 0);
            faulty(x, word + " by 999", 0);
            faulty(x, "pupil 0; " + word + " by 1", 9);
            due.is("six", x.count(1), 6);
            due.is("no PUPIL", x.count(0), 0);
            reads(x, "pupil 0", 1);
        }
    }

    private static void aThirteenthPupil() {
        MarkCurves x = new MarkCurves();
        reads(x, repeat("pupil0;", 10) + "pupil0", 11);
        faulty(x, "pupil1;pupil2", 7);
        due.is("the 12th didn't come either", x.count(0), 11);
        reads(x, "pupil 1", 1);
        faulty(x, "pupil 2", 0);
        faulty(x, "pupil 9 99", 0);
        faulty(x, "bent;  pupil", 7);
        due.is("twelve", x.count(0), 12);
        due.is("no CURVE", x.count(1), 0);
        reads(x, "bent", 1);
        x.drop();
        reads(x, "pupil 3", 1);
    }

    private static void theFirstFaultIsTold() {
        fault("question 8 worth 41", 9);
        fault("common 9 999", 7);
        fault("pupil 4 99", 6);
        fault("pupil 0 11 12", 8);
        fault("bent by 101;bent by 102", 8);
        fault("bent $ $", 5);
        fault("worth;worth", 0);
        fault("pupil 0 1 $", 10);
        fault("bent by 3$", 9);
        fault("bent by $", 8);
        fault("$bent by 101", 0);
    }

    private static void itEndsTooEarly() {
        String[] texts = {"question", "question 1", "question 1 worth", "common", "common 1", "bent by", "pupil",
            "bent;", "pupil 1 2;", "bent;question 1"};
        for (String text : texts) {
            fault(text + ";", text.length());
            fault(text + "  ;bent", text.length() + 2);
            for (int blanks = 0; blanks < 4; blanks++) {
                fault(text + repeat(" ", blanks), text.length() + blanks);
            }
        }
    }

    private static void aFaultChangesNothing() {
        String[] texts = {"", "x", "question 1 worth 2;question 0 worth 41", "common 1 300;common 2 401",
            "bent by 20;bent by 101", "pupil 2 3 3 3;pupil 2 99", "bent;bent;bent;bent",
            "question 1 worth 0;common 1 1;pupil 3;linked;", "pupil 1 1 1 1 1 1 1 1 1 1"};
        for (String text : texts) {
            for (int part = 0; part < Look.PARTS; part++) {
                MarkCurves asked = States.SOME.make();
                MarkCurves other = States.SOME.make();
                asked.wipe();
                other.wipe();
                due.that("a FAULT in '" + text + "'", Due.read(asked, text) < 0);
                due.that("then part " + part, Look.at(asked, part).equals(Look.at(other, part)));
            }
        }
    }

    private static void anItemHoldsForTheNext() {
        MarkCurves x = new MarkCurves();
        reads(x, "pupil 0 10;question 0 worth 4;question 0 worth 10;common 0 1;common 0 2", 5);
        due.is("points held for good", x.pupilOf(0, 1), 4);
        due.is("WORTH as told last", x.worth(0, 10), 10);
        due.is("OLD as told last", x.common(0, 0), 2);
    }
}
