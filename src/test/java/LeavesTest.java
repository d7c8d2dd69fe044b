import java.util.List;
import java.util.function.Consumer;

/**
 * What each act leaves as it was: after an act and its way back the object is like one that was
 * never asked, in all that can be seen; where there is no way back, two ways to the same are alike.
 */
public final class LeavesTest {
    private static final Due due = new Due();
    private static final Twins some = new Twins(due, States.SOME);
    private static final Twins most = new Twins(due, States.MOST);
    private static final Twins nobody = new Twins(due, States.NOBODY);

    public static void main(String[] args) {
        worth();
        common();
        pupil();
        point();
        drawn();
        drop();
        curve();
        turnAndBy();
        right();
        seed();
        feedAndWipe();
        text();
        hold();
        sheet();
        write();
        copy();
        load();
        imageAndUndo();
        imageAndTearAlone();
        sheetsStay();
        due.end();
    }

    private static void worth() {
        for (int q = 0; q < 8; q++) {
            int question = q;
            some.comesBack("worth of " + q, x -> {
                int was = x.worth(question, 40);
                x.worth(question, was);
            });
            nobody.comesBack("worth of " + q, x -> {
                int was = x.worth(question, 0);
                x.worth(question, was);
            });
        }
    }

    private static void common() {
        for (int q = 0; q < 8; q++) {
            int question = q;
            some.comesBack("common " + q, x -> {
                int was = x.common(question, 399);
                x.common(question, was);
            });
            most.comesBack("not common " + q, x -> {
                int was = x.common(question, -1);
                x.common(question, was);
            });
        }
    }

    private static void pupil() {
        some.comesBack("pupil", x -> {
            x.pupil(2);
            x.drop();
        });
        nobody.comesBack("pupil", x -> {
            x.pupil(3);
            x.drop();
        });
    }

    private static void point() {
        for (int p = 0; p < 12; p++) {
            int who = p;
            most.comesBack("points of " + p, x -> {
                for (int q = 0; q < 8; q++) {
                    int first = x.point(who, q, 0, 40);
                    int second = x.point(who, q, 1, 0);
                    x.point(who, q, 0, first);
                    x.point(who, q, 1, second);
                }
            });
        }
    }

    private static int[] takePoints(MarkCurves x, int pupil, int marker) {
        int[] points = new int[8];
        for (int q = 0; q < 8; q++) {
            points[q] = x.point(pupil, q, marker, 0);
        }
        return points;
    }

    private static void givePoints(MarkCurves x, int pupil, int marker, int[] points) {
        for (int q = 0; q < 8; q++) {
            x.point(pupil, q, marker, points[q]);
        }
    }

    private static void drawn() {
        for (int i = 0; i < 24; i++) {
            int who = i / 2;
            int marker = i % 2;
            most.comesBack("drawn of " + who + " by " + marker, x -> {
                int[] points = takePoints(x, who, marker);
                int z = x.count(4);
                x.drawn(who, marker);
                x.seed(z);
                givePoints(x, who, marker, points);
            });
        }
    }

    private static void drop() {
        for (Twins twins : new Twins[] {some, most}) {
            twins.comesBack("drop", x -> {
                int last = x.count(0) - 1;
                int klass = x.pupilOf(last, 0);
                int[] first = takePoints(x, last, 0);
                int[] second = takePoints(x, last, 1);
                x.drop();
                x.pupil(klass);
                givePoints(x, last, 0, first);
                givePoints(x, last, 1, second);
            });
        }
    }

    private static void curve() {
        for (Twins twins : new Twins[] {nobody, some}) {
            for (int k = 0; k < 7; k++) {
                int kind = k;
                twins.sameBy("curve of " + k, x -> x.curve(kind, 10 + kind), x -> {
                    int curve = x.curve(6 - kind, 99);
                    x.turn(curve, kind);
                    x.by(curve, 10 + kind);
                });
            }
        }
    }

    private static void turnAndBy() {
        for (int c = 0; c < 6; c++) {
            int curve = c;
            most.comesBack("turn of " + c, x -> {
                int was = x.turn(curve, 0);
                x.turn(curve, was);
            });
            most.comesBack("by of " + c, x -> {
                int was = x.by(curve, 1);
                x.by(curve, was);
            });
        }
    }

    private static void right() {
        for (int n : new int[] {1, 3, 12}) {
            some.comesBack("right by " + n, x -> {
                int[][] points = new int[5][];
                for (int p = 0; p < 5; p++) {
                    points[p] = takePoints(x, p, 1);
                    givePoints(x, p, 1, points[p]);
                }
                x.right(n);
                for (int p = 0; p < 5; p++) {
                    givePoints(x, p, 1, points[p]);
                }
            });
        }
        some.sameBy("right by 40 where nothing is so unlike", x -> x.right(40), x -> { });
    }

    private static void seed() {
        for (Twins twins : new Twins[] {nobody, some, most}) {
            twins.comesBack("seed", x -> {
                int was = x.seed(Integer.MIN_VALUE);
                x.seed(was);
            });
        }
    }

    private static void feedAndWipe() {
        some.comesBack("feed and wipe", x -> {
            x.feed(-1, 4);
            x.wipe();
            Due.feed(x, "bent by 30;pupi");
        });
        some.sameBy("wipe", x -> x.wipe(), x -> {
            Due.feed(x, "l 9");
            x.text();
        });
    }

    private static void text() {
        reads("bent by 30", x -> x.curve(3, 30));
        reads("dropped", x -> x.curve(6, 0));
        reads("question 2 worth 1", x -> x.worth(2, 1));
        reads("question 5 worth 40", x -> x.worth(5, 40));
        reads("common 3 77", x -> x.common(3, 77));
        reads("common 0 0", x -> x.common(0, 0));
        reads("pupil 2", x -> x.pupil(2));
        reads("pupil 1 12 0 3", x -> {
            x.pupil(1);
            Due.score(x, 5, 0, 12);
            Due.score(x, 5, 2, 3);
        });
        reads("curve;pupil 3;question 0 worth 2;pupil 0 2;common 7 400;linked by 100", x -> {
            x.curve(0, 0);
            x.pupil(3);
            x.worth(0, 2);
            x.pupil(0);
            Due.score(x, 6, 0, 2);
            x.common(7, 400);
            x.curve(5, 100);
        });
    }

    private static void reads(String text, Consumer<MarkCurves> byActs) {
        some.sameBy("'" + text + "'", x -> {
            x.wipe();
            Due.read(x, text);
        }, x -> {
            x.wipe();
            byActs.accept(x);
        });
    }

    private static void hold() {
        for (int s = 0; s < 10; s++) {
            int spot = s;
            most.comesBack("hold in " + s, x -> {
                int was = x.as(spot, 0);
                x.hold(spot, (was + 1) % 6);
                x.hold(spot, -1);
                x.hold(spot, was);
            });
        }
        some.comesBack("hold in a spot that holds nothing", x -> {
            x.hold(4, 2);
            x.hold(4, -1);
        });
    }

    private static void sheet() {
        some.comesBack("sheet 3", x -> {
            x.sheet(3, 32, 40);
            x.write(3, 39, 6);
            x.sheet(3, 0, 40);
        });
        some.comesBack("sheet 1", x -> {
            x.sheet(1, 0, 0);
            x.sheet(1, 16, 10);
            for (int i = 0; i < 10; i++) {
                x.write(1, i, i + 1);
            }
        });
        some.sameBy("sheets of what was longer and of what was MISSING", x -> x.sheet(2, 16, 5), x -> {
            x.sheet(2, 0, 0);
            x.sheet(2, 16, 5);
        });
    }

    private static void write() {
        for (int i = 0; i < 10; i++) {
            int at = i;
            for (int sheet = 0; sheet < 3; sheet++) {
                int s = sheet;
                some.comesBack("write to " + i + " of sheet " + s, x -> {
                    x.write(s, at, 40);
                    x.write(s, at, at + 1);
                });
            }
        }
    }

    /** Numbers 12 to 39 of sheet 2 are 0. */
    private static void copy() {
        some.comesBack("copy to another", x -> {
            x.copy(0, 0, 2, 12, 10);
            x.copy(2, 22, 2, 12, 10);
        });
        some.comesBack("copy within one", x -> {
            x.copy(2, 0, 2, 20, 12);
            x.copy(2, 1, 2, 0, 11);
            x.copy(2, 20, 2, 0, 12);
            x.copy(2, 32, 2, 20, 8);
            x.copy(2, 32, 2, 28, 4);
        });
        some.comesBack("copy onto itself", x -> x.copy(1, 0, 1, 0, 10));
        some.comesBack("copy of none", x -> x.copy(0, 4, 2, 7, 0));
    }

    private static void load() {
        for (int m = 0; m < 2; m++) {
            int marker = m;
            some.comesBack("load by " + m, x -> {
                int[] points = takePoints(x, 3, marker);
                givePoints(x, 3, marker, points);
                x.load(1, 3, marker);
                givePoints(x, 3, marker, points);
            });
        }
        some.sameBy("load of 5: 1 to 5, and then 6 of 3", x -> x.load(0, 2, 1), x -> {
            for (int q = 0; q < 5; q++) {
                x.point(2, q, 1, q + 1);
            }
        });
    }

    private static void imageAndUndo() {
        for (Twins twins : new Twins[] {some, most}) {
            twins.sameBy("image, twice", x -> x.image(), x -> {
                x.image();
                x.image();
            });
            twins.sameBy("undo, twice", x -> x.undo(), x -> {
                x.undo();
                x.undo();
            });
            twins.sameBy("undo and image", x -> x.undo(), x -> {
                x.undo();
                x.image();
            });
            twins.sameBy("image and undo", x -> x.image(), x -> {
                x.image();
                x.undo();
            });
            twins.sameBy("image after tear", x -> x.image(), x -> {
                x.tear();
                x.image();
            });
            twins.sameBy("tear, twice", x -> x.tear(), x -> {
                x.tear();
                x.tear();
            });
            twins.sameBy("tear after image", x -> x.tear(), x -> {
                x.image();
                x.tear();
            });
        }
    }

    /** But for the image itself; nothing comes back once it is torn. */
    private static void imageAndTearAlone() {
        for (States state : States.values()) {
            for (int part = 0; part < Look.OF_THE_IMAGE; part++) {
                MarkCurves kept = state.make();
                MarkCurves torn = state.make();
                kept.image();
                torn.tear();
                due.is(state + ": undo after tear", torn.undo(), Due.NONE);
                List<Integer> untouched = Look.at(state.make(), part);
                due.that(state + ": image, part " + part, Look.at(kept, part).equals(untouched));
                due.that(state + ": tear and undo, part " + part, Look.at(torn, part).equals(untouched));
            }
        }
    }

    /** Look reads a sheet by other acts, of which this looks at each alone: the sheet tells RAW still. */
    private static void sheetsStay() {
        MarkCurves x = Due.withRaws(5, 6, 7, 8, 9);
        x.curve(0, 0);
        for (int s = 0; s < 4; s++) {
            x.sheet(s, 8 << s % 3, 5);
            for (int p = 0; p < 5; p++) {
                x.write(s, p, 5 + p);
            }
        }
        sheetsAreRight(x, "written");
        x.worth(0, 39);
        sheetsAreRight(x, "worth");
        for (int what = 0; what <= 5; what++) {
            x.count(what);
            sheetsAreRight(x, "count of " + what);
        }
        x.point(0, 0, 0, x.point(0, 0, 0, 3));
        sheetsAreRight(x, "point");
        x.common(3, 3);
        sheetsAreRight(x, "common");
        x.pupil(0);
        x.drawn(5, 0);
        x.drop();
        sheetsAreRight(x, "pupil, drawn, drop");
        x.image();
        x.undo();
        sheetsAreRight(x, "image, undo");
        x.load(0, 0, 0);
        Due.score(x, 0, 0, 5);
        for (int q = 1; q < 8; q++) {
            Due.score(x, 0, q, 0);
        }
        sheetsAreRight(x, "load");
    }

    private static void sheetsAreRight(MarkCurves x, String act) {
        for (int s = 0; s < 4; s++) {
            due.is("sheet " + s + " after " + act, x.judge(s, 0), 0);
        }
    }
}
