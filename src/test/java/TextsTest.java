/** Promises 37 to 39: the tape and the texts on it. */
public final class TextsTest {
    private static final Due due = new Due();

    public static void main(String[] args) {
        feed();
        wipe();
        everyItem();
        tokens();
        worthAsItIsByThen();
        faults();
        faultsAtTheLimits();
        faultChangesNothing();
        everyByte();
        due.end();
    }

    private static void feed() {
        MarkCurves x = new MarkCurves();
        due.is("feed(0, 0)", x.feed(0, 0), Due.BEYOND);
        due.is("feed(0, 5)", x.feed(0, 5), Due.BEYOND);
        due.is("feed(0, -1)", x.feed(0, -1), Due.BEYOND);
        due.is("three lowest bytes", x.feed(0x7a62656e, 3), 3);
        due.is("one lowest byte", x.feed(0x7a7a7a74, 1), 4);
        due.is("bytes of bent, the highest first", x.text(), 1);
        due.is("bent", x.curveOf(0, 0), 3);
        for (int i = 1; i <= 29; i++) {
            due.is("feed four", x.feed(-1, 4), 4 * i);
        }
        due.is("feed two", x.feed(-1, 2), 118);
        due.is("three too many", x.feed(0, 3), Due.FULL);
        due.is("feed two more", x.feed(0, 2), 120);
        due.is("one too many", x.feed(0, 1), Due.FULL);
        due.is("none at a full tape", x.feed(0, 0), Due.BEYOND);
        due.is("120 bytes", x.count(3), 120);
        due.is("twice it was full", x.status(1), 2);
    }

    private static void wipe() {
        MarkCurves x = new MarkCurves();
        due.is("wipe of nothing", x.wipe(), 0);
        x.feed(0, 3);
        due.is("wipe()", x.wipe(), 3);
        due.is("empty then", x.count(3), 0);
        due.is("a text of nothing ends too early", x.text(), -1);
        due.is("bent after it", Due.read(x, "bent"), 1);
    }

    private static void everyItem() {
        MarkCurves x = new MarkCurves();
        due.is("questions and common ones",
                Due.read(x, "question 7 worth 40;question 0 worth 0;common 7 400;common 1 0"), 4);
        due.is("worth 40", x.worth(7, 40), 40);
        due.is("worth 0", x.worth(0, 0), 0);
        due.is("common with 400", x.common(7, 400), 400);
        due.is("common with 0", x.common(1, 0), 0);
        due.is("the set of them", x.paper(5), 130);
        due.is("curves", Due.read(x, "added by 100;stretched by 0;bent;shared by 7;linked;dropped"), 6);
        int[] bys = {100, 0, 0, 7, 0, 0};
        for (int c = 0; c < 6; c++) {
            due.is("kind of " + c, x.curveOf(c, 0), c + 1);
            due.is("by of " + c, x.curveOf(c, 1), bys[c]);
        }
        due.is("pupils", Due.read(x, "pupil 3 0 2 3 4 5 6 7 40;pupil 0;pupil 1 0 9"), 3);
        due.is("class", x.pupilOf(0, 0), 3);
        for (int q = 1; q < 7; q++) {
            due.is("points by 0 in " + q, x.point(0, q, 0, q + 1), q + 1);
            due.is("points by 1 in " + q, x.point(0, q, 1, q + 1), q + 1);
        }
        due.is("points in 7", x.pupilOf(0, 9), 40);
        due.is("no points", x.pupilOf(1, 1), 0);
        due.is("some points", x.pupilOf(2, 1), 9);
        MarkCurves y = new MarkCurves();
        due.is("a plain curve", Due.read(y, "curve by 12"), 1);
        due.is("its kind", y.curveOf(0, 0), 0);
        due.is("its by", y.curveOf(0, 1), 12);
    }

    private static void tokens() {
        MarkCurves x = new MarkCurves();
        due.is("without blanks", Due.read(x, "question0worth5;common1 9;added by3;pupil1 5;pupil2"), 5);
        due.is("worth 5", x.worth(0, 5), 5);
        due.is("old 9", x.common(1, 9), 9);
        due.is("by 3", x.curveOf(0, 1), 3);
        due.is("score 5", x.pupilOf(0, 2), 5);
        due.is("with blanks", Due.read(x, "   question   3   worth 007  ;  bent   "), 2);
        due.is("worth 7 by 007", x.worth(3, 7), 7);
        due.is("many noughts", Due.read(x, "question 00000000000000000003 worth 00000000000000000008"), 1);
        due.is("worth 8", x.worth(3, 8), 8);
        due.is("words run together", Due.read(x, "addedby 3"), -1);
        due.is("4294967296 is not 0", Due.read(x, "question 4294967296 worth 1"), -10);
        due.is("1000 is no number", Due.read(x, "common 0 1000"), -10);
        due.is("a tab is no blank", Due.read(x, "bent\t"), -5);
        due.is("a tab begins no token", Due.read(x, "\tbent"), -1);
        due.is("a new line is no blank", Due.read(x, "bent ;\nbent"), -7);
        due.is("great letters are no words", Due.read(x, "Bent"), -1);
        due.is("nor part of them", Due.read(x, "bEnt"), -1);
        due.is("not even behind an item", Due.read(x, "bentX"), -5);
    }

    private static void worthAsItIsByThen() {
        MarkCurves x = new MarkCurves();
        due.is("raised ahead", Due.read(x, "question 0 worth 20;pupil 0 20"), 2);
        due.is("raised too late", Due.read(x, "pupil 0 21;question 0 worth 21"), -9);
        due.is("lowered ahead", Due.read(x, "question 0 worth 19;pupil 0 20"), -29);
        due.is("lowered behind", Due.read(x, "pupil 1 20;question 0 worth 4"), 2);
        due.is("points held", x.pupilOf(1, 1), 4);
        due.is("those of earlier pupils too", x.pupilOf(0, 1), 4);
    }

    private static void fault(String text, int place) {
        due.is("'" + text + "'", Due.read(new MarkCurves(), text), -1 - place);
    }

    private static void faults() {
        fault("", 0);
        fault("   ", 3);
        fault(";", 0);
        fault("5", 0);
        fault("mark", 0);
        fault("worth 3", 0);
        fault("by 3", 0);
        fault("bent;", 5);
        fault("bent;  ", 7);
        fault("bent;;bent", 5);
        fault("bent bent", 5);
        fault("bent 5", 5);
        fault("bent by", 7);
        fault("bent by ;", 8);
        fault("bent by by", 8);
        fault("bent by 101", 8);
        fault("bent by 3 4", 10);
        fault("bent by 3 by 4", 10);
        fault("bent, bent", 4);
        fault("question", 8);
        fault("question ", 9);
        fault("question 8 worth 1", 9);
        fault("question worth 1", 9);
        fault("question 0", 10);
        fault("question 0 1", 11);
        fault("question 0 worths 1", 11);
        fault("question 0 by 1", 11);
        fault("question 0 worth", 16);
        fault("question 0 worth ;", 17);
        fault("question 0 worth 41", 17);
        fault("question 0 worth 4 5", 19);
        fault("common", 6);
        fault("common 8 0", 7);
        fault("common ; 0", 7);
        fault("common 0", 8);
        fault("common 0 401", 9);
        fault("common 0 worth", 9);
        fault("common 0 400 0", 13);
        fault("pupil", 5);
        fault("pupil 4", 6);
        fault("pupil bent", 6);
        fault("pupil 0 11", 8);
        fault("pupil 0 1 2 3 4 5 6 7 11", 22);
        fault("pupil 0 1 2 3 4 5 6 7 8 9", 24);
        fault("pupil 0 1 bent", 10);
        fault("pupil 0 -1", 8);
    }

    private static void faultsAtTheLimits() {
        MarkCurves x = new MarkCurves();
        due.is("five curves", Due.read(x, "bent;bent;bent;bent;bent"), 5);
        due.is("a 7th", Due.read(x, "bent by 3; bent by 4"), -12);
        due.is("the 7th's number doesn't matter", Due.read(x, "bent;bent by 900"), -6);
        due.is("none of them came", x.count(1), 5);
        due.is("a 6th", Due.read(x, "bent"), 1);
        due.is("a 7th alone", Due.read(x, "bent"), -1);
        due.is("eleven pupils", Due.read(x,
                "pupil0;pupil0;pupil0;pupil0;pupil0;pupil0;pupil0;pupil0;pupil0;pupil0;pupil0"), 11);
        due.is("a 13th", Due.read(x, "pupil 3 1; pupil 0"), -12);
        due.is("the 13th's class doesn't matter", Due.read(x, "pupil 3;pupil 9"), -9);
        due.is("a 12th", Due.read(x, "pupil 3"), 1);
        due.is("a 13th alone", Due.read(x, "pupil 3"), -1);
    }

    private static void faultChangesNothing() {
        MarkCurves x = new MarkCurves();
        Due.feed(x, "question 0 worth 3;common 0 5;bent by 4;pupil 1 2;nothing");
        due.is("the fault", x.text(), -51);
        due.is("no finding", x.status(-1), 0);
        due.is("the tape is empty", x.count(3), 0);
        due.is("no worth", x.worth(0, 10), 10);
        due.is("no common one", x.count(2), 0);
        due.is("no curve", x.count(1), 0);
        due.is("no pupil", x.count(0), 0);
        due.is("a text after it", Due.read(x, "bent"), 1);
        due.is("the tape is empty after it", x.count(3), 0);
    }

    /** Each byte ahead of a text and behind it: only a blank may stand there. */
    private static void everyByte() {
        for (int b = 0; b < 256; b++) {
            MarkCurves x = new MarkCurves();
            x.feed(b, 1);
            Due.feed(x, " bent");
            due.is("byte " + b + " ahead", x.text(), b == ' ' ? 1 : -1);
            Due.feed(x, "bent ");
            x.feed(b, 1);
            int behind = b == ' ' ? 1 : b == ';' ? -7 : -6;
            due.is("byte " + b + " behind", x.text(), behind);
        }
    }
}
