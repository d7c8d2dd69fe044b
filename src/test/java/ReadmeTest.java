/** The calls that README.md shows under "Use", with the answers that it tells. */
public final class ReadmeTest {
    private static final Due due = new Due();

    public static void main(String[] args) {
        pupilAndCurve();
        MarkCurves x = text();
        sheet(x);
        findings();
        due.end();
    }

    private static void pupilAndCurve() {
        MarkCurves x = new MarkCurves();
        int anna = x.pupil(0);
        x.point(anna, 2, 0, 7);
        x.point(anna, 2, 1, 8);
        due.is("raw", x.pupilOf(anna, 1), 7);
        int added = x.curve(1, 20);
        due.is("mark", x.mark(added, anna), 27);
        due.is("least", x.byFor(added, 50), 43);
    }

    private static MarkCurves text() {
        MarkCurves x = new MarkCurves();
        for (char c : "pupil 0 10 10 10;pupil 1 5;stretched".toCharArray()) {
            x.feed(c, 1);
        }
        due.is("items", x.text(), 3);
        due.is("bert", x.mark(0, 1), 16);
        due.is("passing", x.pass(0, 50), 1);
        x.feed(0x62656e73, 4);
        due.is("fault", x.text(), -1);
        return x;
    }

    private static void sheet(MarkCurves x) {
        x.sheet(0, 8, 2);
        x.write(0, 0, 100);
        x.write(0, 1, 16);
        due.is("right", x.judge(0, 0), 0);
        x.image();
        x.drop();
        due.is("pupils", x.undo(), 2);
    }

    /** The table of findings, in its order, each counted where the table says. */
    private static void findings() {
        MarkCurves x = States.MOST.make();
        x.sheet(1, 16, 1);
        x.sheet(2, 0, 0);
        int[] told = {x.worth(8, 0), x.pupil(0), x.copy(0, 0, 1, 0, 1), x.byFor(0, 400), x.moves(0, 0),
            x.write(2, 0, 0), x.sheet(0, 8, -1)};
        for (int i = 0; i < 7; i++) {
            due.is("finding " + i, told[i], -1000001 - i);
            due.is("status " + i, x.status(i), 1);
        }
    }
}
