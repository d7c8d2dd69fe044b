import java.util.ArrayList;
import java.util.List;
import java.util.Random;

/**
 * Long runs of drawn calls, each answer compared with that of a model that is written for
 * plainness alone: copies for every "what if", no state kept between calls but the state itself.
 */
public final class ModelTest {
    private static final int RUNS = 3000;
    private static final int CALLS = 512;
    private static final String[] WORDS = {"question", "worth", "common", "curve", "added", "stretched", "bent",
        "shared", "linked", "dropped", "by", "pupil", ";", ";", " ", "x", "0", "1", "7", "8", "10", "41", "1000"};

    private static final Due due = new Due();

    public static void main(String[] args) {
        for (int run = 0; run < RUNS; run++) {
            new Run(run).go();
        }
        due.end();
    }

    static final class Pupil {
        int klass;
        int[][] points = new int[8][2];

        Pupil copy() {
            Pupil p = new Pupil();
            p.klass = klass;
            for (int q = 0; q < 8; q++) {
                p.points[q] = points[q].clone();
            }
            return p;
        }

        int score(int q) {
            return (points[q][0] + points[q][1]) / 2;
        }

        int raw() {
            int sum = 0;
            for (int q = 0; q < 8; q++) {
                sum += score(q);
            }
            return sum;
        }
    }

    static final class World {
        int[] worth = {10, 10, 10, 10, 10, 10, 10, 10};
        boolean[] common = new boolean[8];
        int[] old = new int[8];
        List<Pupil> pupils = new ArrayList<>();
        List<int[]> curves = new ArrayList<>();
        Integer[] spots = new Integer[10];
        int z = 1;

        World copy() {
            World w = new World();
            w.worth = worth.clone();
            w.common = common.clone();
            w.old = old.clone();
            for (Pupil p : pupils) {
                w.pupils.add(p.copy());
            }
            for (int[] c : curves) {
                w.curves.add(c.clone());
            }
            w.spots = spots.clone();
            w.z = z;
            return w;
        }

        void setWorth(int q, int v) {
            worth[q] = v;
            for (Pupil p : pupils) {
                for (int m = 0; m < 2; m++) {
                    if (p.points[q][m] > v) {
                        p.points[q][m] = v;
                    }
                }
            }
        }

        int full() {
            int sum = 0;
            for (int w : worth) {
                sum += w;
            }
            return sum;
        }

        int best() {
            int best = 0;
            for (Pupil p : pupils) {
                best = Math.max(best, p.raw());
            }
            return best;
        }

        int oldMean() {
            int sum = 0;
            for (int q = 0; q < 8; q++) {
                sum += common[q] ? old[q] : 0;
            }
            return sum;
        }

        int newMean() {
            int sum = 0;
            for (Pupil p : pupils) {
                for (int q = 0; q < 8; q++) {
                    sum += common[q] ? p.score(q) : 0;
                }
            }
            return 10 * sum / pupils.size();
        }

        int mark(int c, int p) {
            return mark(curves.get(c)[0], curves.get(c)[1], p);
        }

        int mark(int kind, int by, int who) {
            int raw = pupils.get(who).raw();
            int stretched = best() == 0 ? 0 : 100 * raw / best();
            if (kind == 0) {
                return raw;
            } else if (kind == 1) {
                return raw + by > full() ? full() : raw + by;
            } else if (kind == 2) {
                return stretched;
            } else if (kind == 3) {
                return (int) Math.floor(Math.sqrt(100 * stretched));
            } else if (kind == 4) {
                int place = 1;
                for (Pupil p : pupils) {
                    place += p.raw() > raw ? 1 : 0;
                }
                int n = pupils.size();
                return 100 * place <= by * n ? 100 : 100 * place <= ((by + 100) / 2) * n ? 60 : 30;
            } else if (kind == 5) {
                int to = raw + (oldMean() - newMean()) / 10;
                return to < 0 ? 0 : to > full() ? full() : to;
            }
            int left = by % 8;
            int sum = 0;
            int fullLeft = 0;
            for (int q = 0; q < 8; q++) {
                sum += q == left ? 0 : pupils.get(who).score(q);
                fullLeft += q == left ? 0 : worth[q];
            }
            return fullLeft == 0 ? 0 : full() * sum / fullLeft;
        }

        int draw() {
            z = z * 1103515245 + 12345;
            return z >>> 8;
        }

        /** 100 times the question and the least loss, or -1. */
        int gain(int c, int who) {
            int was = mark(c, who);
            for (int loss = 1; loss <= 40; loss++) {
                for (int q = 0; q < 8; q++) {
                    int[] points = pupils.get(who).points[q];
                    if (points[0] < loss) {
                        continue;
                    }
                    points[0] -= loss;
                    int then = mark(c, who);
                    points[0] += loss;
                    if (then > was) {
                        return 100 * q + loss;
                    }
                }
            }
            return -1;
        }
    }

    static final class Model {
        World w = new World();
        World kept = null;
        String tape = "";
        int[][] sheets = new int[4][];
        int[] bits = new int[4];
        int[] told = new int[7];

        int tell(int finding) {
            told[Due.BEYOND - finding]++;
            return finding;
        }

        boolean in(int v, int a, int b) {
            return a <= v && v <= b;
        }

        boolean isPupil(int p) {
            return in(p, 0, w.pupils.size() - 1);
        }

        boolean isCurve(int c) {
            return in(c, 0, w.curves.size() - 1);
        }

        int n() {
            return w.pupils.size();
        }

        int passing(int c, int line) {
            int set = 0;
            for (int p = 0; p < n(); p++) {
                set |= w.mark(c, p) >= line ? 1 << p : 0;
            }
            return set;
        }

        int ask(int act, int a, int b, int c, int d, int e) {
            if (act < 9) {
                return askPaper(act, a, b, c, d);
            } else if (act < 17) {
                return askCurves(act, a, b);
            } else if (act < 24) {
                return askKeeps(act, a, b);
            } else if (act < 30) {
                return askLines(act, a, b, c);
            } else if (act < 36) {
                return askMarkers(act, a);
            } else if (act < 39) {
                return askTexts(act, a, b);
            } else if (act < 46) {
                return askSheets(act, a, b, c, d, e);
            }
            return askImages(act, a);
        }

        int askPaper(int act, int a, int b, int c, int d) {
            int was;
            switch (act) {
                case 1:
                    if (!in(a, 0, 7) || !in(b, 0, 40)) {
                        return tell(Due.BEYOND);
                    }
                    was = w.worth[a];
                    w.setWorth(a, b);
                    return was;
                case 2:
                    if (!in(a, 0, 7) || !in(b, -1, 400)) {
                        return tell(Due.BEYOND);
                    }
                    was = w.common[a] ? w.old[a] : -1;
                    w.common[a] = b >= 0;
                    w.old[a] = b;
                    return was;
                case 3:
                    if (!in(a, 0, 3)) {
                        return tell(Due.BEYOND);
                    }
                    if (n() == 12) {
                        return tell(Due.FULL);
                    }
                    w.pupils.add(new Pupil());
                    w.pupils.get(n() - 1).klass = a;
                    return n() - 1;
                case 4:
                    if (!isPupil(a) || !in(b, 0, 7) || !in(c, 0, 1) || !in(d, 0, w.worth[b])) {
                        return tell(Due.BEYOND);
                    }
                    was = w.pupils.get(a).points[b][c];
                    w.pupils.get(a).points[b][c] = d;
                    return was;
                case 5:
                    if (!isPupil(a) || !in(b, 0, 9)) {
                        return tell(Due.BEYOND);
                    }
                    Pupil p = w.pupils.get(a);
                    return b == 0 ? p.klass : b == 1 ? p.raw() : p.score(b - 2);
                case 6:
                    return paper(a);
                case 7:
                    if (!isPupil(a) || !in(b, 0, 1)) {
                        return tell(Due.BEYOND);
                    }
                    for (int q = 0; q < 8; q++) {
                        w.pupils.get(a).points[q][b] = w.draw() % (w.worth[q] + 1);
                    }
                    return w.pupils.get(a).raw();
                default:
                    if (n() == 0) {
                        return tell(Due.NONE);
                    }
                    w.pupils.remove(n() - 1);
                    return n();
            }
        }

        int paper(int what) {
            if (!in(what, 0, 5)) {
                return tell(Due.BEYOND);
            }
            if (n() == 0 && (what == 1 || what == 3)) {
                return tell(Due.NONE);
            }
            int sum = 0;
            for (Pupil p : w.pupils) {
                sum += p.raw();
            }
            int set = 0;
            for (int q = 0; q < 8; q++) {
                set += w.common[q] ? 1 << q : 0;
            }
            return what == 0 ? w.full() : what == 1 ? w.best() : what == 2 ? w.oldMean() : what == 3 ? w.newMean()
                    : what == 4 ? sum : set;
        }

        int askCurves(int act, int a, int b) {
            int was;
            if (act == 9) {
                if (!in(a, 0, 6) || !in(b, 0, 100)) {
                    return tell(Due.BEYOND);
                }
                if (w.curves.size() == 6) {
                    return tell(Due.FULL);
                }
                w.curves.add(new int[] {a, b});
                return w.curves.size() - 1;
            }
            if (!isCurve(a)) {
                return tell(Due.BEYOND);
            }
            int[] curve = w.curves.get(a);
            switch (act) {
                case 10:
                    return in(b, 0, 1) ? curve[b] : tell(Due.BEYOND);
                case 11:
                case 12:
                    if (!in(b, 0, act == 11 ? 6 : 100)) {
                        return tell(Due.BEYOND);
                    }
                    was = curve[act - 11];
                    curve[act - 11] = b;
                    return was;
                case 13:
                    return isPupil(b) ? w.mark(a, b) : tell(Due.BEYOND);
                case 14:
                    if (!isPupil(b)) {
                        return tell(Due.BEYOND);
                    }
                    int place = 1;
                    for (int p = 0; p < n(); p++) {
                        place += w.mark(a, p) > w.mark(a, b) ? 1 : 0;
                    }
                    return place;
                case 15:
                    if (!in(b, -1, 3)) {
                        return tell(Due.BEYOND);
                    }
                    int sum = 0;
                    for (int p = 0; p < n(); p++) {
                        sum += b == -1 || w.pupils.get(p).klass == b ? w.mark(a, p) : 0;
                    }
                    return sum;
                default:
                    if (n() == 0) {
                        return tell(Due.NONE);
                    }
                    List<Integer> marks = new ArrayList<>();
                    for (int p = 0; p < n(); p++) {
                        marks.add(w.mark(a, p));
                    }
                    marks.sort(null);
                    return marks.get((n() - 1) / 2);
            }
        }

        int firstBreak(int c) {
            for (int p = 0; p < n(); p++) {
                for (int o = 0; o < n(); o++) {
                    if (w.pupils.get(p).raw() > w.pupils.get(o).raw() && w.mark(c, p) < w.mark(c, o)) {
                        return 100 * p + o;
                    }
                }
            }
            return -1;
        }

        int askKeeps(int act, int a, int b) {
            if (!isCurve(a)) {
                return tell(Due.BEYOND);
            }
            int set = 0;
            switch (act) {
                case 17:
                    return firstBreak(a) == -1 ? 1 : 0;
                case 18:
                    return firstBreak(a) == -1 ? tell(Due.NONE) : firstBreak(a);
                case 19:
                    int pairs = 0;
                    for (int p = 0; p < n(); p++) {
                        for (int o = 0; o < p; o++) {
                            boolean unlike = w.pupils.get(p).raw() != w.pupils.get(o).raw();
                            pairs += unlike && w.mark(a, p) == w.mark(a, o) ? 1 : 0;
                        }
                    }
                    return pairs;
                case 20:
                    for (int p = 0; p < n(); p++) {
                        set |= w.gain(a, p) >= 0 ? 1 << p : 0;
                    }
                    return set;
                case 21:
                    if (!isPupil(b)) {
                        return tell(Due.BEYOND);
                    }
                    return w.gain(a, b) < 0 ? tell(Due.NONE) : w.gain(a, b);
                case 22:
                    return moves(a, b);
                default:
                    return without(a, b);
            }
        }

        int moves(int a, int b) {
            if (!in(b, 0, 40)) {
                return tell(Due.BEYOND);
            }
            if (n() == 12) {
                return tell(Due.STATE);
            }
            World then = w.copy();
            Pupil fresh = new Pupil();
            for (int q = 0; q < 8; q++) {
                fresh.points[q][0] = Math.min(b, w.worth[q]);
                fresh.points[q][1] = Math.min(b, w.worth[q]);
            }
            then.pupils.add(fresh);
            int set = 0;
            for (int p = 0; p < n(); p++) {
                set |= then.mark(a, p) != w.mark(a, p) ? 1 << p : 0;
            }
            return set;
        }

        int without(int a, int b) {
            if (!in(b, 0, 7)) {
                return tell(Due.BEYOND);
            }
            World then = w.copy();
            then.setWorth(b, 0);
            int most = 0;
            int who = -1;
            for (int p = n() - 1; p >= 0; p--) {
                int more = then.mark(a, p) - w.mark(a, p);
                if (more > 0 && more >= most) {
                    most = more;
                    who = p;
                }
            }
            return who == -1 ? tell(Due.NONE) : who;
        }

        int askLines(int act, int a, int b, int c) {
            if (act == 27) {
                if (!in(a, 0, 400)) {
                    return tell(Due.BEYOND);
                }
                int best = -1;
                for (int k = w.curves.size() - 1; k >= 0; k--) {
                    if (best < 0 || Integer.bitCount(passing(k, a)) >= Integer.bitCount(passing(best, a))) {
                        best = k;
                    }
                }
                return best < 0 ? tell(Due.NONE) : best;
            }
            if (!isCurve(a)) {
                return tell(Due.BEYOND);
            }
            switch (act) {
                case 24:
                    return in(b, 0, 400) ? passing(a, b) : tell(Due.BEYOND);
                case 25:
                    if (!in(b, 0, 12)) {
                        return tell(Due.BEYOND);
                    }
                    for (int line = 400; line >= 0; line--) {
                        if (Integer.bitCount(passing(a, line)) >= b) {
                            return line;
                        }
                    }
                    return tell(Due.NONE);
                case 26:
                    if (!in(b, 0, 400)) {
                        return tell(Due.BEYOND);
                    }
                    int heap = 0;
                    for (int p = 0; p < n(); p++) {
                        int m = w.mark(a, p);
                        heap += in(m, b, b + 2) ? 1 : in(m, b - 3, b - 1) ? -1 : 0;
                    }
                    return heap;
                case 28:
                    return byFor(a, b);
                default:
                    if (!in(b, 0, 400) || !in(c, 0, 400) || b > c) {
                        return tell(Due.BEYOND);
                    }
                    int letters = 0;
                    for (int p = 0; p < n(); p++) {
                        letters += in(w.mark(a, p), b, c) ? 1 : 0;
                    }
                    return letters;
            }
        }

        int byFor(int a, int b) {
            if (!in(b, 0, 400)) {
                return tell(Due.BEYOND);
            }
            World then = w.copy();
            for (int by = 0; by <= 100; by++) {
                then.curves.get(a)[1] = by;
                boolean all = true;
                for (int p = 0; p < n(); p++) {
                    all &= then.mark(a, p) >= b;
                }
                if (all) {
                    return by;
                }
            }
            return tell(Due.NONE);
        }

        int counts(int q) {
            int sum = 0;
            for (Pupil p : w.pupils) {
                for (Pupil o : w.pupils) {
                    sum += Math.max(0, p.score(q) - o.score(q));
                }
            }
            return sum;
        }

        int unlikeness(int p) {
            int sum = 0;
            for (int[] points : w.pupils.get(p).points) {
                sum += Math.abs(points[0] - points[1]);
            }
            return sum;
        }

        int askMarkers(int act, int a) {
            switch (act) {
                case 30:
                    int lean = 0;
                    for (Pupil p : w.pupils) {
                        for (int[] points : p.points) {
                            lean += points[1] - points[0];
                        }
                    }
                    return n() == 0 ? 0 : 100 * lean / n();
                case 31:
                    if (!in(a, 1, 40)) {
                        return tell(Due.BEYOND);
                    }
                    int did = 0;
                    for (Pupil p : w.pupils) {
                        for (int[] points : p.points) {
                            if (points[1] - points[0] >= a || points[0] - points[1] >= a) {
                                points[1] = points[0];
                                did++;
                            }
                        }
                    }
                    return did;
                case 32:
                    if (!in(a, 0, 1)) {
                        return tell(Due.BEYOND);
                    }
                    if (n() == 0) {
                        return tell(Due.NONE);
                    }
                    int who = 0;
                    for (int p = 1; p < n(); p++) {
                        who = unlikeness(p) > unlikeness(who) ? p : who;
                    }
                    return a == 0 ? who : unlikeness(who);
                case 33:
                    return in(a, 0, 7) ? counts(a) : tell(Due.BEYOND);
                case 34:
                    int heavy = 0;
                    for (int q = 1; q < 8; q++) {
                        heavy = counts(q) > counts(heavy) ? q : heavy;
                    }
                    return heavy;
                default:
                    int was = w.z;
                    w.z = a;
                    return was;
            }
        }

        int askTexts(int act, int a, int b) {
            if (act == 36) {
                if (!in(b, 1, 4)) {
                    return tell(Due.BEYOND);
                }
                if (tape.length() + b > 120) {
                    return tell(Due.FULL);
                }
                for (int i = b - 1; i >= 0; i--) {
                    tape += (char) ((a >> (8 * i)) & 0xff);
                }
                return tape.length();
            }
            String was = tape;
            tape = "";
            return act == 37 ? was.length() : new Text(was, this).read();
        }

        int askSheets(int act, int a, int b, int c, int d, int e) {
            if (act == 39) {
                if (!in(a, 0, 9) || (b != -1 && !isCurve(b))) {
                    return tell(Due.BEYOND);
                }
                w.spots[a] = b == -1 ? null : Integer.valueOf(b);
                return 1;
            }
            if (act == 40) {
                if (!in(a, 0, 9) || !in(b, 0, 6)) {
                    return tell(Due.BEYOND);
                }
                if (w.spots[a] == null) {
                    return tell(Due.MISSING);
                }
                int kind = w.curves.get(w.spots[a])[0];
                boolean is = b == 0 || b == kind || (b == 2 && kind == 3) || (b == 1 && kind == 5);
                return is ? w.spots[a] : tell(Due.KIND);
            }
            if (!in(a, 0, 3)) {
                return tell(Due.BEYOND);
            }
            if (act == 41) {
                return sheet(a, b, c);
            }
            if (act == 43 && !in(c, 0, 3)) {
                return tell(Due.BEYOND);
            }
            if (sheets[a] == null || (act == 43 && sheets[c] == null)) {
                return tell(Due.MISSING);
            }
            return act == 42 ? write(a, b, c) : act == 43 ? copy(a, b, c, d, e) : act == 44 ? load(a, b, c) : judge(a, b);
        }

        int sheet(int a, int b, int c) {
            if (b != 0 && b != 8 && b != 16 && b != 32) {
                return tell(Due.BEYOND);
            }
            if (c < 0) {
                return tell(Due.SIZE);
            }
            if (c > 40) {
                return tell(Due.BEYOND);
            }
            bits[a] = b;
            sheets[a] = b == 0 ? null : new int[c];
            return b == 0 ? 0 : c;
        }

        int write(int a, int b, int c) {
            if (!in(b, 0, sheets[a].length - 1)) {
                return tell(Due.BEYOND);
            }
            sheets[a][b] = bits[a] == 8 ? (byte) c : bits[a] == 16 ? (short) c : c;
            return 1;
        }

        int copy(int s, int from, int t, int to, int n) {
            if (bits[s] != bits[t]) {
                return tell(Due.KIND);
            }
            boolean below = from < 0 || to < 0 || n < 0;
            if (below || (long) from + n > sheets[s].length || (long) to + n > sheets[t].length) {
                return tell(Due.BEYOND);
            }
            int[] all = sheets[s].clone();
            for (int i = 0; i < n; i++) {
                sheets[t][to + i] = all[from + i];
            }
            return n;
        }

        int load(int s, int p, int m) {
            if (!isPupil(p) || !in(m, 0, 1)) {
                return tell(Due.BEYOND);
            }
            for (int i = 0; i < sheets[s].length; i++) {
                if (i == 8 || !in(sheets[s][i], 0, w.worth[i])) {
                    return i;
                }
                w.pupils.get(p).points[i][m] = sheets[s][i];
            }
            return sheets[s].length;
        }

        int judge(int s, int c) {
            if (!isCurve(c)) {
                return tell(Due.BEYOND);
            }
            int right = 0;
            for (int i = 0; i < sheets[s].length; i++) {
                if (i >= n() || sheets[s][i] != w.mark(c, i)) {
                    return 1 + right;
                }
                right++;
            }
            return right == n() ? 0 : 1 + right;
        }

        int askImages(int act, int a) {
            switch (act) {
                case 46:
                    kept = w.copy();
                    return 1;
                case 47:
                    if (kept == null) {
                        return tell(Due.NONE);
                    }
                    w = kept.copy();
                    return n();
                case 48:
                    int was = kept == null ? 0 : 1;
                    kept = null;
                    return was;
                case 49:
                    return count(a);
                default:
                    if (!in(a, -1, 6)) {
                        return tell(Due.BEYOND);
                    }
                    int all = 0;
                    for (int t : told) {
                        all += t;
                    }
                    return a == -1 ? all : told[a];
            }
        }

        int count(int a) {
            if (!in(a, 0, 5)) {
                return tell(Due.BEYOND);
            }
            int spots = 0;
            for (Integer s : w.spots) {
                spots += s == null ? 0 : 1;
            }
            int commons = 0;
            for (boolean c : w.common) {
                commons += c ? 1 : 0;
            }
            return new int[] {n(), w.curves.size(), commons, tape.length(), w.z, spots}[a];
        }
    }

    /** All tokens are cut first; then the grammar walks over them. */
    static final class Text {
        final Model model;
        final World then;
        final List<String> tokens = new ArrayList<>();
        final List<Integer> places = new ArrayList<>();
        int at = 0;

        Text(String tape, Model model) {
            this.model = model;
            this.then = model.w.copy();
            int i = 0;
            while (i < tape.length()) {
                int j = i + 1;
                String rest = tape.substring(i, i + 1);
                String run = rest.matches("[a-z]") ? "[a-z]" : rest.matches("[0-9]") ? "[0-9]" : "none";
                while (j < tape.length() && tape.substring(j, j + 1).matches(run)) {
                    j++;
                }
                if (tape.charAt(i) != ' ') {
                    tokens.add(tape.substring(i, j));
                    places.add(i);
                }
                i = j;
            }
            tokens.add("END");
            places.add(tape.length());
        }

        int read() {
            int items = 0;
            do {
                if (!item()) {
                    return -1 - places.get(at);
                }
                items++;
            } while (take(";"));
            if (!tokens.get(at).equals("END")) {
                return -1 - places.get(at);
            }
            model.w = then;
            return items;
        }

        boolean take(String word) {
            if (tokens.get(at).equals(word)) {
                at++;
                return true;
            }
            return false;
        }

        boolean isNumber() {
            return tokens.get(at).matches("[0-9]+");
        }

        /** -1 where no number up to most stands. */
        int number(int most) {
            if (isNumber() && new java.math.BigInteger(tokens.get(at)).compareTo(java.math.BigInteger.valueOf(most)) <= 0) {
                return Integer.parseInt(tokens.get(at++));
            }
            return -1;
        }

        boolean item() {
            String word = tokens.get(at);
            int kind = List.of("curve", "added", "stretched", "bent", "shared", "linked", "dropped").indexOf(word);
            if (take("question")) {
                int q = number(7);
                int v = q >= 0 && take("worth") ? number(40) : -1;
                if (v >= 0) {
                    then.setWorth(q, v);
                }
                return v >= 0;
            }
            if (take("common")) {
                int q = number(7);
                int v = q >= 0 ? number(400) : -1;
                if (v >= 0) {
                    then.common[q] = true;
                    then.old[q] = v;
                }
                return v >= 0;
            }
            if (kind >= 0 && then.curves.size() < 6) {
                at++;
                int by = take("by") ? number(100) : 0;
                then.curves.add(new int[] {kind, by});
                return by >= 0;
            }
            if (word.equals("pupil") && then.pupils.size() < 12) {
                at++;
                Pupil p = new Pupil();
                p.klass = number(3);
                then.pupils.add(p);
                for (int q = 0; p.klass >= 0 && q < 8 && isNumber(); q++) {
                    int v = number(then.worth[q]);
                    if (v < 0) {
                        return false;
                    }
                    p.points[q][0] = v;
                    p.points[q][1] = v;
                }
                return p.klass >= 0;
            }
            return false;
        }
    }

    static final class Run {
        final int number;
        final Random random;
        final MarkCurves x = new MarkCurves();
        final Model model = new Model();
        int calls = 0;

        Run(int number) {
            this.number = number;
            this.random = new Random(number);
        }

        void go() {
            if (number % 3 == 0) {
                richBegin();
            }
            while (calls < CALLS) {
                int kind = random.nextInt(12);
                if (kind == 0) {
                    text();
                } else if (kind == 1) {
                    judged();
                } else {
                    any();
                }
            }
        }

        void richBegin() {
            for (int q = 0; q < 8; q++) {
                call(1, q, random.nextInt(41), 0, 0, 0);
                call(2, q, random.nextInt(3) == 0 ? random.nextInt(401) : -1, 0, 0, 0);
            }
            int pupils = 1 + random.nextInt(12);
            for (int p = 0; p < pupils; p++) {
                call(3, random.nextInt(4), 0, 0, 0, 0);
                call(7, p, 0, 0, 0, 0);
                call(7, p, 1, 0, 0, 0);
            }
            for (int c = 0; c < 6; c++) {
                call(9, random.nextInt(7), random.nextInt(101), 0, 0, 0);
            }
        }

        void text() {
            StringBuilder text = new StringBuilder();
            if (random.nextInt(4) == 0) {
                for (int i = random.nextInt(9); i >= 0; i--) {
                    text.append(WORDS[random.nextInt(WORDS.length)]).append(random.nextBoolean() ? " " : "");
                }
            } else {
                for (int i = random.nextInt(5); i >= 0; i--) {
                    text.append(item()).append(i > 0 ? ";" : "");
                }
            }
            if (random.nextInt(5) == 0 && text.length() > 0) {
                text.setCharAt(random.nextInt(text.length()), (char) (random.nextInt(256)));
            }
            for (int i = 0; i < text.length(); i++) {
                call(36, text.charAt(i), 1, 0, 0, 0);
            }
            call(38, 0, 0, 0, 0, 0);
        }

        String item() {
            String gap = random.nextBoolean() ? " " : "  ";
            switch (random.nextInt(4)) {
                case 0:
                    return "question" + gap + random.nextInt(8) + "worth" + random.nextInt(41);
                case 1:
                    return "common " + random.nextInt(8) + gap + random.nextInt(401);
                case 2:
                    return WORDS[3 + random.nextInt(7)] + (random.nextBoolean() ? gap + "by " + random.nextInt(101) : "");
                default:
                    StringBuilder pupil = new StringBuilder("pupil" + gap + random.nextInt(4));
                    for (int i = random.nextInt(9); i > 0; i--) {
                        pupil.append(gap).append(random.nextInt(8));
                    }
                    return pupil.toString();
            }
        }

        /** A sheet with the marks of a curve, perhaps one wrong, one more or one less. */
        void judged() {
            if (model.w.curves.isEmpty()) {
                return;
            }
            int curve = random.nextInt(model.w.curves.size());
            int n = model.n();
            call(41, 1, 8 << random.nextInt(3), n + (random.nextInt(5) == 0 ? 1 : 0), 0, 0);
            for (int p = 0; p < n; p++) {
                call(42, 1, p, model.w.mark(curve, p) + (random.nextInt(30) == 0 ? 1 : 0), 0, 0);
            }
            call(45, 1, curve, 0, 0, 0);
        }

        void any() {
            int act = 1 + random.nextInt(50);
            int[] a = new int[5];
            for (int i = 0; i < 5; i++) {
                a[i] = argument();
            }
            if (act == 8 && random.nextInt(3) != 0) {
                return;
            }
            if (act == 41 && random.nextInt(4) != 0) {
                a[0] = random.nextInt(4);
                a[1] = 8 << random.nextInt(3);
            }
            if (act == 7 || act == 4) {
                a[act == 7 ? 1 : 2] = random.nextInt(2);
            }
            if (act == 43 && random.nextInt(4) != 0) {
                for (int i = 0; i < 5; i++) {
                    a[i] = random.nextInt(4);
                }
            }
            call(act, a[0], a[1], a[2], a[3], a[4]);
        }

        int argument() {
            switch (random.nextInt(16)) {
                case 0: return random.nextInt(420) - 5;
                case 1: return random.nextInt(105);
                case 2: return random.nextInt(45) - 2;
                case 3: return -1 - random.nextInt(2);
                case 4: return random.nextInt();
                case 5: return random.nextInt(101);
                default: return random.nextInt(random.nextBoolean() ? 6 : 12);
            }
        }

        void call(int act, int a, int b, int c, int d, int e) {
            if (calls >= CALLS) {
                return;
            }
            calls++;
            int want = model.ask(act, a, b, c, d, e);
            int got = Calls.ask(x, act, a, b, c, d, e);
            String told = "run " + number + ", call " + calls + ": act " + act + "(" + a + ", " + b + ", " + c + ", " + d
                    + ", " + e + ")";
            due.is(told, got, want);
        }
    }
}
