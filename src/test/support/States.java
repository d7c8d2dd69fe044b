/** Objects to ask: always the same calls behind them, so that two of one state are alike. */
enum States {
    /** As the constructor leaves it. */
    NEW {
        @Override
        MarkCurves make() {
            return new MarkCurves();
        }
    },
    /** No pupils; curves 0 and 1. */
    NOBODY {
        @Override
        MarkCurves make() {
            MarkCurves x = new MarkCurves();
            x.curve(1, 7);
            x.curve(6, 3);
            return x;
        }
    },
    /**
     * 5 pupils, 3 curves (STRETCHED, SHARED, LINKED), WORTH 3 of QUESTION 5, the others 12; sheets
     * of 10, 10 and 40 numbers (8, 16 and 8 bits), sheet 3 is missing; spots 0, 3 and 9 hold
     * something; a text that is half fed; an image of an earlier day.
     */
    SOME {
        @Override
        MarkCurves make() {
            MarkCurves x = new MarkCurves();
            x.pupil(3);
            x.curve(4, 44);
            x.drawn(0, 0);
            x.common(7, 70);
            x.image();
            x.drop();
            x.turn(0, 2);
            x.curve(4, 30);
            x.curve(5, 90);
            for (int q = 0; q < 8; q++) {
                x.worth(q, q == 5 ? 3 : 12);
            }
            x.common(0, 110);
            x.common(2, 33);
            pupils(x, 5);
            x.hold(0, 0);
            x.hold(3, 1);
            x.hold(9, 2);
            fillSheet(x, 0, 8, 10);
            fillSheet(x, 1, 16, 10);
            fillSheet(x, 2, 8, 40);
            Due.feed(x, "bent by 30;pupi");
            return x;
        }
    },
    /** The greatest numbers of all: pupils, curves, spots, sheets, WORTH, OLD, bytes. */
    MOST {
        @Override
        MarkCurves make() {
            MarkCurves x = new MarkCurves();
            x.pupil(1);
            x.image();
            x.drop();
            for (int q = 0; q < 8; q++) {
                x.worth(q, 40);
                x.common(q, 400);
            }
            pupils(x, 12);
            for (int c = 0; c < 6; c++) {
                x.curve(c + 1, 100 - c);
            }
            for (int spot = 0; spot < 10; spot++) {
                x.hold(spot, spot % 6);
            }
            for (int s = 0; s < 4; s++) {
                x.sheet(s, 8, 40);
                x.write(s, 39, 9 + s);
            }
            for (int i = 0; i < 30; i++) {
                x.feed(0x20202020, 4);
            }
            return x;
        }
    };

    abstract MarkCurves make();

    private static void pupils(MarkCurves x, int n) {
        for (int p = 0; p < n; p++) {
            x.pupil(p % 4);
            x.drawn(p, 0);
            x.drawn(p, 1);
        }
    }

    private static void fillSheet(MarkCurves x, int s, int bits, int n) {
        x.sheet(s, bits, n);
        for (int i = 0; i < n && i < 12; i++) {
            x.write(s, i, i + 1);
        }
    }
}
