import java.util.Arrays;
import java.util.List;
import java.util.function.Consumer;

/**
 * Two objects of one state. One is asked a thing, then both are looked at: so a test sees what an
 * act changes that should change nothing, whatever it answers.
 */
final class Twins {
    private final Due due;
    private final States state;

    Twins(Due due, States state) {
        this.due = due;
        this.state = state;
    }

    /** The act answers a finding, counts it once, and changes nothing else. */
    void refuse(int finding, String act, int... args) {
        String told = told(act, args);
        for (int part = 0; part < Look.PARTS; part++) {
            MarkCurves asked = state.make();
            MarkCurves other = state.make();
            due.is(told, Calls.ask(asked, act, args), finding);
            statusIs(told, asked, statusAfter(other, finding));
            same(told, part, asked, other);
        }
    }

    /** Whatever the act answers, it changes nothing; if that is a finding, it is counted once. */
    void changesNothing(String act, int... args) {
        String told = told(act, args);
        for (int part = 0; part < Look.PARTS; part++) {
            MarkCurves asked = state.make();
            MarkCurves other = state.make();
            int got = Calls.ask(asked, act, args);
            statusIs(told, asked, statusAfter(other, got));
            same(told, part, asked, other);
        }
    }

    /** What is done to one of them and what is done to the other come to the same, without a finding. */
    void sameBy(String told, Consumer<MarkCurves> one, Consumer<MarkCurves> another) {
        for (int part = 0; part < Look.PARTS; part++) {
            MarkCurves asked = state.make();
            MarkCurves other = state.make();
            int[] before = Look.status(asked);
            one.accept(asked);
            another.accept(other);
            statusIs(state + ": " + told, asked, before);
            same(state + ": " + told, part, asked, other);
        }
    }

    /** An act and its way back leave all as it was. */
    void comesBack(String told, Consumer<MarkCurves> thereAndBack) {
        sameBy(told, thereAndBack, untouched -> { });
    }

    /** The act doesn't find these arguments BEYOND. */
    void take(String act, int... args) {
        MarkCurves asked = state.make();
        int before = asked.status(0);
        Calls.ask(asked, act, args);
        due.is(told(act, args) + " is taken", asked.status(0), before);
    }

    private static int[] statusAfter(MarkCurves x, int answer) {
        int[] told = Look.status(x);
        if (answer <= Due.BEYOND && answer >= Due.SIZE) {
            told[0]++;
            told[1 + Due.BEYOND - answer]++;
        }
        return told;
    }

    private String told(String act, int[] args) {
        return state + ": " + act + Arrays.toString(args);
    }

    private void statusIs(String told, MarkCurves x, int[] want) {
        int[] got = Look.status(x);
        for (int i = 0; i < want.length; i++) {
            due.is(told + ", then status(" + (i - 1) + ")", got[i], want[i]);
        }
    }

    private void same(String told, int part, MarkCurves asked, MarkCurves other) {
        List<Integer> got = Look.at(asked, part);
        List<Integer> want = Look.at(other, part);
        due.is(told + ", then how much is seen of part " + part, got.size(), want.size());
        for (int i = 0; i < got.size() && i < want.size(); i++) {
            due.is(told + ", then part " + part + ", answer " + i, got.get(i), want.get(i));
        }
    }
}
