import java.util.Arrays;

/**
 * A paper of questions, pupils with points by two markers, and curves that move their marks.
 * The document DOC.md says what each call answers; README.md says how to use this class.
 */
public final class MarkCurves {
    private static final int LOW = -1000001;
    private static final int BEYOND = LOW;
    private static final int FULL = LOW - 1;
    private static final int KIND = LOW - 2;
    private static final int NONE = LOW - 3;
    private static final int STATE = LOW - 4;
    private static final int MISSING = LOW - 5;
    private static final int SIZE = LOW - 6;
    private static final int FINDINGS = 7;

    private static final int QUESTIONS = 8;
    private static final int MARKERS = 2;
    private static final int PUPILS = 12;
    private static final int CLASSES = 4;
    private static final int CURVES = 6;
    private static final int SPOTS = 10;
    private static final int SHEETS = 4;

    private static final int MOST_WORTH = 40;
    private static final int MOST_OLD = 400;
    private static final int MOST_BY = 100;
    private static final int MOST_LINE = 400;

    private static final int PLAIN = 0;
    private static final int ADDED = 1;
    private static final int STRETCHED = 2;
    private static final int BENT = 3;
    private static final int SHARED = 4;
    private static final int LINKED = 5;
    private static final int DROPPED = 6;
    private static final int KINDS = 7;
    /** The kind that each kind stands under; -1 for the topmost. */
    private static final int[] OVER = {-1, PLAIN, PLAIN, STRETCHED, PLAIN, ADDED, PLAIN};

    private final Paper now = new Paper();
    private final Paper kept = new Paper();
    private final Paper draft = new Paper();
    private final Scores scores = new Scores();
    private final Tape tape = new Tape();
    private final Sheet[] sheets = new Sheet[SHEETS];
    private final int[] marks = new int[PUPILS];
    private final int[] others = new int[PUPILS];
    private final int[] findings = new int[FINDINGS];
    private boolean somethingKept = false;

    public MarkCurves() {
        for (int s = 0; s < SHEETS; s++) {
            sheets[s] = new Sheet();
        }
    }

    // ---- paper, pupils

    public int worth(int question, int v) {
        if (!isQuestion(question) || !within(v, 0, MOST_WORTH)) {
            return tell(BEYOND);
        }
        int was = now.worths[question];
        now.setWorth(question, v);
        return was;
    }

    public int common(int question, int old) {
        if (!isQuestion(question) || !within(old, -1, MOST_OLD)) {
            return tell(BEYOND);
        }
        int was = now.olds[question];
        now.olds[question] = old;
        return was;
    }

    public int pupil(int klass) {
        if (!within(klass, 0, CLASSES - 1)) {
            return tell(BEYOND);
        }
        if (now.pupils >= PUPILS) {
            return tell(FULL);
        }
        return now.addPupil(klass);
    }

    public int point(int pupil, int question, int marker, int v) {
        if (!isPupil(pupil) || !isQuestion(question) || !isMarker(marker)) {
            return tell(BEYOND);
        }
        if (!within(v, 0, now.worths[question])) {
            return tell(BEYOND);
        }
        int at = spotOfPoint(pupil, question, marker);
        int was = now.points[at];
        now.points[at] = v;
        return was;
    }

    public int pupilOf(int pupil, int what) {
        if (!isPupil(pupil) || !within(what, 0, QUESTIONS + 1)) {
            return tell(BEYOND);
        }
        if (what == 0) {
            return now.classes[pupil];
        }
        return what == 1 ? now.rawOf(pupil) : now.scoreOf(pupil, what - 2);
    }

    public int paper(int what) {
        if (!within(what, 0, 5)) {
            return tell(BEYOND);
        }
        if ((what == 1 || what == 3) && now.pupils == 0) {
            return tell(NONE);
        }
        scores.read(now);
        switch (what) {
            case 0: return scores.full;
            case 1: return scores.greatestRaw();
            case 2: return scores.oldMean;
            case 3: return scores.newMean();
            case 4: return scores.sumOfRaws();
            default: return scores.commons;
        }
    }

    public int drawn(int pupil, int marker) {
        if (!isPupil(pupil) || !isMarker(marker)) {
            return tell(BEYOND);
        }
        for (int question = 0; question < QUESTIONS; question++) {
            int over = now.worths[question] + 1;
            int draw = now.nextDraw();
            now.points[spotOfPoint(pupil, question, marker)] = over > 0 ? draw % over : 0;
        }
        return now.rawOf(pupil);
    }

    public int drop() {
        if (now.pupils <= 0) {
            return tell(NONE);
        }
        now.pupils--;
        return now.pupils;
    }

    // ---- curves

    public int curve(int kind, int by) {
        if (!isKind(kind) || !isBy(by)) {
            return tell(BEYOND);
        }
        if (now.curves >= CURVES) {
            return tell(FULL);
        }
        return now.addCurve(kind, by);
    }

    public int curveOf(int curve, int what) {
        if (!isCurve(curve) || !within(what, 0, 1)) {
            return tell(BEYOND);
        }
        return what == 0 ? now.kinds[curve] : now.bys[curve];
    }

    public int turn(int curve, int kind) {
        if (!isCurve(curve) || !isKind(kind)) {
            return tell(BEYOND);
        }
        int was = now.kinds[curve];
        now.kinds[curve] = kind;
        return was;
    }

    public int by(int curve, int v) {
        if (!isCurve(curve) || !isBy(v)) {
            return tell(BEYOND);
        }
        int was = now.bys[curve];
        now.bys[curve] = v;
        return was;
    }

    public int mark(int curve, int pupil) {
        if (!isCurve(curve) || !isPupil(pupil)) {
            return tell(BEYOND);
        }
        scores.read(now);
        return scores.markOf(now.kinds[curve], now.bys[curve], pupil);
    }

    public int place(int curve, int pupil) {
        if (!isCurve(curve) || !isPupil(pupil)) {
            return tell(BEYOND);
        }
        workOut(curve);
        return 1 + marksFrom(marks[pupil] + 1);
    }

    public int sum(int curve, int klass) {
        if (!isCurve(curve) || !within(klass, -1, CLASSES - 1)) {
            return tell(BEYOND);
        }
        workOut(curve);
        int sum = 0;
        for (int p = 0; p < now.pupils; p++) {
            if (klass == -1 || now.classes[p] == klass) {
                sum += marks[p];
            }
        }
        return sum;
    }

    public int middle(int curve) {
        if (!isCurve(curve)) {
            return tell(BEYOND);
        }
        if (now.pupils == 0) {
            return tell(NONE);
        }
        workOut(curve);
        return greatestReachedBy(now.pupils - (now.pupils - 1) / 2);
    }

    // ---- what a curve keeps

    public int keeps(int curve) {
        if (!isCurve(curve)) {
            return tell(BEYOND);
        }
        return firstBreak(curve) < 0 ? 1 : 0;
    }

    public int breaks(int curve) {
        if (!isCurve(curve)) {
            return tell(BEYOND);
        }
        int found = firstBreak(curve);
        return found < 0 ? tell(NONE) : found;
    }

    public int heaped(int curve) {
        if (!isCurve(curve)) {
            return tell(BEYOND);
        }
        workOut(curve);
        int pairs = 0;
        for (int p = 0; p < now.pupils; p++) {
            for (int o = p + 1; o < now.pupils; o++) {
                if (scores.raws[p] != scores.raws[o] && marks[p] == marks[o]) {
                    pairs++;
                }
            }
        }
        return pairs;
    }

    public int gains(int curve) {
        if (!isCurve(curve)) {
            return tell(BEYOND);
        }
        scores.read(now);
        int set = 0;
        for (int p = 0; p < now.pupils; p++) {
            if (gainOf(curve, p) >= 0) {
                set |= 1 << p;
            }
        }
        return set;
    }

    public int gainsBy(int curve, int pupil) {
        if (!isCurve(curve) || !isPupil(pupil)) {
            return tell(BEYOND);
        }
        scores.read(now);
        int found = gainOf(curve, pupil);
        return found < 0 ? tell(NONE) : found;
    }

    public int moves(int curve, int points) {
        if (!isCurve(curve) || !within(points, 0, MOST_WORTH)) {
            return tell(BEYOND);
        }
        if (now.pupils >= PUPILS) {
            return tell(STATE);
        }
        workOut(curve);
        scores.join(points);
        scores.markAll(now.kinds[curve], now.bys[curve], others);
        int set = 0;
        for (int p = 0; p < now.pupils; p++) {
            if (others[p] != marks[p]) {
                set |= 1 << p;
            }
        }
        return set;
    }

    public int without(int curve, int question) {
        if (!isCurve(curve) || !isQuestion(question)) {
            return tell(BEYOND);
        }
        workOut(curve);
        scores.strike(question);
        scores.markAll(now.kinds[curve], now.bys[curve], others);
        int who = -1;
        int most = 0;
        for (int p = 0; p < now.pupils; p++) {
            if (others[p] - marks[p] > most) {
                most = others[p] - marks[p];
                who = p;
            }
        }
        return who < 0 ? tell(NONE) : who;
    }

    // ---- lines

    public int pass(int curve, int line) {
        if (!isCurve(curve) || !isLine(line)) {
            return tell(BEYOND);
        }
        workOut(curve);
        int set = 0;
        for (int p = 0; p < now.pupils; p++) {
            if (marks[p] >= line) {
                set |= 1 << p;
            }
        }
        return set;
    }

    public int line(int curve, int n) {
        if (!isCurve(curve) || !within(n, 0, PUPILS)) {
            return tell(BEYOND);
        }
        if (n > now.pupils) {
            return tell(NONE);
        }
        if (n == 0) {
            return MOST_LINE;
        }
        workOut(curve);
        return Math.min(MOST_LINE, greatestReachedBy(n));
    }

    public int heap(int curve, int line) {
        if (!isCurve(curve) || !isLine(line)) {
            return tell(BEYOND);
        }
        workOut(curve);
        int justAbove = marksFrom(line) - marksFrom(line + 3);
        int justBelow = marksFrom(line - 3) - marksFrom(line);
        return justAbove - justBelow;
    }

    public int kindest(int line) {
        if (!isLine(line)) {
            return tell(BEYOND);
        }
        if (now.curves == 0) {
            return tell(NONE);
        }
        int best = 0;
        int most = -1;
        for (int curve = 0; curve < now.curves; curve++) {
            workOut(curve);
            int passing = marksFrom(line);
            if (passing > most) {
                most = passing;
                best = curve;
            }
        }
        return best;
    }

    public int byFor(int curve, int line) {
        if (!isCurve(curve) || !isLine(line)) {
            return tell(BEYOND);
        }
        scores.read(now);
        for (int by = 0; by <= MOST_BY; by++) {
            scores.markAll(now.kinds[curve], by, marks);
            if (marksFrom(line) == now.pupils) {
                return by;
            }
        }
        return tell(NONE);
    }

    public int letters(int curve, int a, int b) {
        if (!isCurve(curve) || !isLine(a) || !isLine(b) || a > b) {
            return tell(BEYOND);
        }
        workOut(curve);
        return marksFrom(a) - marksFrom(b + 1);
    }

    // ---- markers, questions

    public int lean() {
        int sum = 0;
        for (int p = 0; p < now.pupils; p++) {
            for (int q = 0; q < QUESTIONS; q++) {
                sum += now.leanIn(p, q);
            }
        }
        return now.pupils > 0 ? 100 * sum / now.pupils : 0;
    }

    public int right(int n) {
        if (!within(n, 1, MOST_WORTH)) {
            return tell(BEYOND);
        }
        int changed = 0;
        for (int p = 0; p < now.pupils; p++) {
            for (int q = 0; q < QUESTIONS; q++) {
                if (Math.abs(now.leanIn(p, q)) >= n) {
                    now.points[spotOfPoint(p, q, 1)] = now.points[spotOfPoint(p, q, 0)];
                    changed++;
                }
            }
        }
        return changed;
    }

    public int unlike(int what) {
        if (!within(what, 0, 1)) {
            return tell(BEYOND);
        }
        if (now.pupils == 0) {
            return tell(NONE);
        }
        int who = 0;
        int most = -1;
        for (int p = 0; p < now.pupils; p++) {
            int apart = now.markersApart(p);
            if (apart > most) {
                most = apart;
                who = p;
            }
        }
        return what == 0 ? who : most;
    }

    public int counts(int question) {
        if (!isQuestion(question)) {
            return tell(BEYOND);
        }
        scores.read(now);
        return scores.spreadIn(question);
    }

    public int heavy() {
        scores.read(now);
        int heaviest = 0;
        int most = -1;
        for (int q = 0; q < QUESTIONS; q++) {
            int spread = scores.spreadIn(q);
            if (spread > most) {
                most = spread;
                heaviest = q;
            }
        }
        return heaviest;
    }

    public int seed(int v) {
        int was = now.z;
        now.z = v;
        return was;
    }

    // ---- texts

    public int feed(int bytes, int n) {
        if (!within(n, 1, 4)) {
            return tell(BEYOND);
        }
        if (tape.length + n > Tape.MOST_BYTES) {
            return tell(FULL);
        }
        for (int i = n - 1; i >= 0; i--) {
            tape.add(bytes >>> (8 * i));
        }
        return tape.length;
    }

    public int wipe() {
        int had = tape.length;
        tape.length = 0;
        return had;
    }

    public int text() {
        draft.takeFrom(now);
        int answer = tape.readInto(draft);
        tape.length = 0;
        if (answer > 0) {
            now.takeFrom(draft);
        }
        return answer;
    }

    // ---- spots, sheets

    public int hold(int spot, int curve) {
        if (!isSpot(spot) || (curve != -1 && !isCurve(curve))) {
            return tell(BEYOND);
        }
        now.spots[spot] = curve;
        return 1;
    }

    public int as(int spot, int kind) {
        if (!isSpot(spot) || !isKind(kind)) {
            return tell(BEYOND);
        }
        int curve = now.spots[spot];
        if (!isCurve(curve)) {
            return tell(MISSING);
        }
        return isUnder(now.kinds[curve], kind) ? curve : tell(KIND);
    }

    public int sheet(int s, int bits, int n) {
        if (!isSheet(s) || (bits != 0 && bits != 8 && bits != 16 && bits != 32)) {
            return tell(BEYOND);
        }
        if (n < 0) {
            return tell(SIZE);
        }
        if (n > Sheet.MOST_NUMBERS) {
            return tell(BEYOND);
        }
        sheets[s].renew(bits, n);
        return sheets[s].size;
    }

    public int write(int s, int i, int v) {
        if (!isSheet(s)) {
            return tell(BEYOND);
        }
        if (sheets[s].isMissing()) {
            return tell(MISSING);
        }
        if (!within(i, 0, sheets[s].size - 1)) {
            return tell(BEYOND);
        }
        sheets[s].put(i, v);
        return 1;
    }

    public int copy(int s, int from, int t, int to, int n) {
        if (!isSheet(s) || !isSheet(t)) {
            return tell(BEYOND);
        }
        Sheet source = sheets[s];
        Sheet target = sheets[t];
        if (source.isMissing() || target.isMissing()) {
            return tell(MISSING);
        }
        if (source.bits != target.bits) {
            return tell(KIND);
        }
        if (!source.hasRun(from, n) || !target.hasRun(to, n)) {
            return tell(BEYOND);
        }
        System.arraycopy(source.numbers, from, target.numbers, to, n);
        return n;
    }

    public int load(int s, int pupil, int marker) {
        if (!isSheet(s)) {
            return tell(BEYOND);
        }
        Sheet sheet = sheets[s];
        if (sheet.isMissing()) {
            return tell(MISSING);
        }
        if (!isPupil(pupil) || !isMarker(marker)) {
            return tell(BEYOND);
        }
        int came = 0;
        while (came < sheet.size && came < QUESTIONS
                && within(sheet.numbers[came], 0, now.worths[came])) {
            now.points[spotOfPoint(pupil, came, marker)] = sheet.numbers[came];
            came++;
        }
        return came;
    }

    public int judge(int s, int curve) {
        if (!isSheet(s)) {
            return tell(BEYOND);
        }
        Sheet sheet = sheets[s];
        if (sheet.isMissing()) {
            return tell(MISSING);
        }
        if (!isCurve(curve)) {
            return tell(BEYOND);
        }
        workOut(curve);
        int same = 0;
        while (same < sheet.size && same < now.pupils && sheet.numbers[same] == marks[same]) {
            same++;
        }
        return same == sheet.size && same == now.pupils ? 0 : 1 + same;
    }

    // ---- images

    public int image() {
        kept.takeFrom(now);
        somethingKept = true;
        return 1;
    }

    public int undo() {
        if (!somethingKept) {
            return tell(NONE);
        }
        now.takeFrom(kept);
        return now.pupils;
    }

    public int tear() {
        int was = somethingKept ? 1 : 0;
        somethingKept = false;
        return was;
    }

    public int count(int what) {
        switch (what) {
            case 0: return now.pupils;
            case 1: return now.curves;
            case 2: return Integer.bitCount(now.commonSet());
            case 3: return tape.length;
            case 4: return now.z;
            case 5: return now.spotsInUse();
            default: return tell(BEYOND);
        }
    }

    public int status(int which) {
        if (!within(which, -1, FINDINGS - 1)) {
            return tell(BEYOND);
        }
        if (which >= 0) {
            return findings[which];
        }
        int all = 0;
        for (int f = 0; f < FINDINGS; f++) {
            all += findings[f];
        }
        return all;
    }

    // ---- what the calls above share

    private int tell(int finding) {
        int which = LOW - finding;
        if (within(which, 0, FINDINGS - 1)) {
            findings[which]++;
        }
        return finding;
    }

    private static boolean within(int v, int least, int most) {
        return v >= least && v <= most;
    }

    private static boolean isQuestion(int question) {
        return within(question, 0, QUESTIONS - 1);
    }

    private static boolean isMarker(int marker) {
        return within(marker, 0, MARKERS - 1);
    }

    private static boolean isKind(int kind) {
        return within(kind, 0, KINDS - 1);
    }

    private static boolean isBy(int by) {
        return within(by, 0, MOST_BY);
    }

    private static boolean isLine(int line) {
        return within(line, 0, MOST_LINE);
    }

    private static boolean isSpot(int spot) {
        return within(spot, 0, SPOTS - 1);
    }

    private static boolean isSheet(int s) {
        return within(s, 0, SHEETS - 1);
    }

    private boolean isPupil(int pupil) {
        return within(pupil, 0, now.pupils - 1);
    }

    private boolean isCurve(int curve) {
        return within(curve, 0, now.curves - 1);
    }

    private static int spotOfPoint(int pupil, int question, int marker) {
        return (pupil * QUESTIONS + question) * MARKERS + marker;
    }

    private static boolean isUnder(int kind, int wanted) {
        int at = kind;
        for (int step = 0; step < KINDS && isKind(at); step++) {
            if (at == wanted) {
                return true;
            }
            at = OVER[at];
        }
        return false;
    }

    /** Fills marks (and scores, raws) with what a curve gives everybody as things are. */
    private void workOut(int curve) {
        scores.read(now);
        scores.markAll(now.kinds[curve], now.bys[curve], marks);
    }

    private int marksFrom(int least) {
        int found = 0;
        for (int p = 0; p < now.pupils; p++) {
            if (marks[p] >= least) {
                found++;
            }
        }
        return found;
    }

    /** The greatest of the marks that n pupils (1 or more, as many as there are at most) reach. */
    private int greatestReachedBy(int n) {
        int greatest = 0;
        for (int p = 0; p < now.pupils; p++) {
            if (marks[p] > greatest && marksFrom(marks[p]) >= n) {
                greatest = marks[p];
            }
        }
        return greatest;
    }

    /** 100 times the first pupil and the other, or -1 where a curve keeps the order. */
    private int firstBreak(int curve) {
        workOut(curve);
        for (int p = 0; p < now.pupils; p++) {
            for (int o = 0; o < now.pupils; o++) {
                if (scores.raws[p] > scores.raws[o] && marks[p] < marks[o]) {
                    return 100 * p + o;
                }
            }
        }
        return -1;
    }

    /** 100 times the question and the least loss by which a pupil gains, or -1. */
    private int gainOf(int curve, int pupil) {
        int where = -1;
        int least = MOST_WORTH + 1;
        for (int q = 0; q < QUESTIONS; q++) {
            int loss = leastGainfulLoss(curve, pupil, q, least - 1);
            if (loss > 0) {
                least = loss;
                where = q;
            }
        }
        return where < 0 ? -1 : 100 * where + least;
    }

    /** How many points of marker 0 (most at most) must go for a greater mark; 0 if none do. */
    private int leastGainfulLoss(int curve, int pupil, int question, int most) {
        int kind = now.kinds[curve];
        int by = now.bys[curve];
        int was = scores.markOf(kind, by, pupil);
        int first = now.points[spotOfPoint(pupil, question, 0)];
        int both = first + now.points[spotOfPoint(pupil, question, 1)];
        int score = both / 2;
        for (int loss = 1; loss <= most && loss <= first; loss++) {
            scores.setScore(pupil, question, (both - loss) / 2);
            boolean gained = scores.markOf(kind, by, pupil) > was;
            scores.setScore(pupil, question, score);
            if (gained) {
                return loss;
            }
        }
        return 0;
    }

    /** All that an image keeps: questions, pupils, curves, spots and z. */
    private static final class Paper {
        final int[] worths = new int[QUESTIONS];
        /** Old of each common question; -1 for one that isn't common. */
        final int[] olds = new int[QUESTIONS];
        final int[] classes = new int[PUPILS];
        final int[] points = new int[PUPILS * QUESTIONS * MARKERS];
        final int[] kinds = new int[CURVES];
        final int[] bys = new int[CURVES];
        /** The curve in each spot; -1 for nothing. */
        final int[] spots = new int[SPOTS];
        int pupils = 0;
        int curves = 0;
        int z = 1;

        Paper() {
            Arrays.fill(worths, 10);
            Arrays.fill(olds, -1);
            Arrays.fill(spots, -1);
        }

        void takeFrom(Paper other) {
            System.arraycopy(other.worths, 0, worths, 0, QUESTIONS);
            System.arraycopy(other.olds, 0, olds, 0, QUESTIONS);
            System.arraycopy(other.classes, 0, classes, 0, PUPILS);
            System.arraycopy(other.points, 0, points, 0, PUPILS * QUESTIONS * MARKERS);
            System.arraycopy(other.kinds, 0, kinds, 0, CURVES);
            System.arraycopy(other.bys, 0, bys, 0, CURVES);
            System.arraycopy(other.spots, 0, spots, 0, SPOTS);
            pupils = other.pupils;
            curves = other.curves;
            z = other.z;
        }

        void setWorth(int question, int v) {
            worths[question] = v;
            for (int p = 0; p < pupils; p++) {
                for (int m = 0; m < MARKERS; m++) {
                    int at = spotOfPoint(p, question, m);
                    points[at] = Math.min(points[at], v);
                }
            }
        }

        /** The caller has seen that there is room. */
        int addPupil(int klass) {
            int pupil = pupils;
            for (int q = 0; q < QUESTIONS; q++) {
                setBoth(pupil, q, 0);
            }
            classes[pupil] = klass;
            pupils++;
            return pupil;
        }

        /** The caller has seen that there is room. */
        int addCurve(int kind, int by) {
            int curve = curves;
            kinds[curve] = kind;
            bys[curve] = by;
            curves++;
            return curve;
        }

        void setBoth(int pupil, int question, int v) {
            for (int m = 0; m < MARKERS; m++) {
                points[spotOfPoint(pupil, question, m)] = v;
            }
        }

        int scoreOf(int pupil, int question) {
            return (points[spotOfPoint(pupil, question, 0)]
                    + points[spotOfPoint(pupil, question, 1)]) / 2;
        }

        int rawOf(int pupil) {
            int raw = 0;
            for (int q = 0; q < QUESTIONS; q++) {
                raw += scoreOf(pupil, q);
            }
            return raw;
        }

        int leanIn(int pupil, int question) {
            return points[spotOfPoint(pupil, question, 1)]
                    - points[spotOfPoint(pupil, question, 0)];
        }

        int markersApart(int pupil) {
            int apart = 0;
            for (int q = 0; q < QUESTIONS; q++) {
                apart += Math.abs(leanIn(pupil, q));
            }
            return apart;
        }

        int commonSet() {
            int set = 0;
            for (int q = 0; q < QUESTIONS; q++) {
                if (olds[q] >= 0) {
                    set |= 1 << q;
                }
            }
            return set;
        }

        int spotsInUse() {
            int used = 0;
            for (int spot = 0; spot < SPOTS; spot++) {
                if (spots[spot] >= 0) {
                    used++;
                }
            }
            return used;
        }

        int nextDraw() {
            z = z * 1103515245 + 12345;
            return z >>> 8;
        }
    }

    /**
     * Scores as they are or, changed here alone, as they would be, and the marks that come of
     * them: so a call can ask "what if" and leave the paper as it is.
     */
    private static final class Scores {
        final int[] worths = new int[QUESTIONS];
        final int[] scores = new int[PUPILS * QUESTIONS];
        final int[] raws = new int[PUPILS];
        int pupils = 0;
        int full = 0;
        int commons = 0;
        int oldMean = 0;
        /** The sum of all pupils' scores in common questions. */
        int commonSum = 0;

        void read(Paper paper) {
            pupils = paper.pupils;
            commons = paper.commonSet();
            full = 0;
            oldMean = 0;
            commonSum = 0;
            for (int q = 0; q < QUESTIONS; q++) {
                worths[q] = paper.worths[q];
                full += worths[q];
                oldMean += Math.max(0, paper.olds[q]);
            }
            Arrays.fill(scores, 0);
            Arrays.fill(raws, 0);
            for (int p = 0; p < pupils; p++) {
                for (int q = 0; q < QUESTIONS; q++) {
                    setScore(p, q, paper.scoreOf(p, q));
                }
            }
        }

        boolean isCommon(int question) {
            return (commons & (1 << question)) != 0;
        }

        int scoreOf(int pupil, int question) {
            return scores[pupil * QUESTIONS + question];
        }

        void setScore(int pupil, int question, int score) {
            int more = score - scoreOf(pupil, question);
            scores[pupil * QUESTIONS + question] = score;
            raws[pupil] += more;
            if (isCommon(question)) {
                commonSum += more;
            }
        }

        /** A question has worth 0, and nobody points in it. */
        void strike(int question) {
            full -= worths[question];
            worths[question] = 0;
            for (int p = 0; p < pupils; p++) {
                setScore(p, question, 0);
            }
        }

        /** One pupil more; the caller has seen that there is room. */
        void join(int points) {
            int pupil = pupils;
            pupils++;
            for (int q = 0; q < QUESTIONS; q++) {
                setScore(pupil, q, Math.min(points, worths[q]));
            }
        }

        int greatestRaw() {
            int greatest = 0;
            for (int p = 0; p < pupils; p++) {
                greatest = Math.max(greatest, raws[p]);
            }
            return greatest;
        }

        int sumOfRaws() {
            int sum = 0;
            for (int p = 0; p < pupils; p++) {
                sum += raws[p];
            }
            return sum;
        }

        int newMean() {
            return pupils > 0 ? 10 * commonSum / pupils : 0;
        }

        int spreadIn(int question) {
            int spread = 0;
            for (int p = 0; p < pupils; p++) {
                for (int o = p + 1; o < pupils; o++) {
                    spread += Math.abs(scoreOf(p, question) - scoreOf(o, question));
                }
            }
            return spread;
        }

        void markAll(int kind, int by, int[] into) {
            for (int p = 0; p < pupils; p++) {
                into[p] = markOf(kind, by, p);
            }
        }

        int markOf(int kind, int by, int pupil) {
            switch (kind) {
                case ADDED: return Math.min(raws[pupil] + by, full);
                case STRETCHED: return stretched(pupil);
                case BENT: return rootOf(100 * stretched(pupil));
                case SHARED: return shared(by, pupil);
                case LINKED: return linked(pupil);
                case DROPPED: return leavingOut(by % QUESTIONS, pupil);
                default: return raws[pupil];
            }
        }

        int stretched(int pupil) {
            int greatest = greatestRaw();
            return greatest > 0 ? 100 * raws[pupil] / greatest : 0;
        }

        /** The greatest root up to 100: a stretched mark, 100 at most, asks for no greater one. */
        static int rootOf(int square) {
            int root = 0;
            while (root < 100 && (root + 1) * (root + 1) <= square) {
                root++;
            }
            return root;
        }

        int shared(int by, int pupil) {
            int place = 1;
            for (int p = 0; p < pupils; p++) {
                if (raws[p] > raws[pupil]) {
                    place++;
                }
            }
            if (100 * place <= by * pupils) {
                return 100;
            }
            return 100 * place <= (by + 100) / 2 * pupils ? 60 : 30;
        }

        int linked(int pupil) {
            int moved = raws[pupil] + (oldMean - newMean()) / 10;
            return Math.max(0, Math.min(full, moved));
        }

        int leavingOut(int question, int pupil) {
            int fullOfOthers = full - worths[question];
            int rawOfOthers = raws[pupil] - scoreOf(pupil, question);
            return fullOfOthers > 0 ? full * rawOfOthers / fullOfOthers : 0;
        }
    }

    /** The tape, and the reader of the text on it: one token is looked at, those behind wait. */
    private static final class Tape {
        static final int MOST_BYTES = 120;
        static final int MOST_NUMBER = 999;
        static final int END = 0;
        static final int WORD = 1;
        static final int NUMBER = 2;
        static final int SEMICOLON = 3;
        static final int NO_TOKEN = 4;

        final int[] bytes = new int[MOST_BYTES];
        int length = 0;
        int token = END;
        /** Where the token begins, and where what is behind it does. */
        int begin = 0;
        int behind = 0;
        /** What a NUMBER tells; beyond MOST_NUMBER only that it is too much. */
        int value = 0;

        void add(int b) {
            if (length < MOST_BYTES) {
                bytes[length] = b & 255;
                length++;
            }
        }

        /** How many items the paper took, or -1 less the fault: then the paper is half changed. */
        int readInto(Paper paper) {
            behind = 0;
            step();
            for (int items = 1; items <= MOST_BYTES; items++) {
                if (!readItem(paper)) {
                    return -1 - begin;
                }
                if (token == END) {
                    return items;
                }
                if (token != SEMICOLON) {
                    return -1 - begin;
                }
                step();
            }
            return -1 - begin;
        }

        /** Each read.. stands behind what it took, or at the token that can't stand there. */
        boolean readItem(Paper paper) {
            if (isWord("question")) {
                return readQuestion(paper);
            }
            if (isWord("common")) {
                return readCommon(paper);
            }
            if (isWord("pupil")) {
                return readPupil(paper);
            }
            int kind = kindOfWord();
            return kind >= 0 && readCurve(paper, kind);
        }

        boolean readQuestion(Paper paper) {
            step();
            if (!isNumber(QUESTIONS - 1)) {
                return false;
            }
            int question = value;
            step();
            if (!isWord("worth")) {
                return false;
            }
            step();
            if (!isNumber(MOST_WORTH)) {
                return false;
            }
            paper.setWorth(question, value);
            step();
            return true;
        }

        boolean readCommon(Paper paper) {
            step();
            if (!isNumber(QUESTIONS - 1)) {
                return false;
            }
            int question = value;
            step();
            if (!isNumber(MOST_OLD)) {
                return false;
            }
            paper.olds[question] = value;
            step();
            return true;
        }

        boolean readPupil(Paper paper) {
            if (paper.pupils >= PUPILS) {
                return false;
            }
            step();
            if (!isNumber(CLASSES - 1)) {
                return false;
            }
            int pupil = paper.addPupil(value);
            step();
            for (int q = 0; q < QUESTIONS && token == NUMBER; q++) {
                if (!isNumber(paper.worths[q])) {
                    return false;
                }
                paper.setBoth(pupil, q, value);
                step();
            }
            return true;
        }

        boolean readCurve(Paper paper, int kind) {
            if (paper.curves >= CURVES) {
                return false;
            }
            int by = 0;
            step();
            if (isWord("by")) {
                step();
                if (!isNumber(MOST_BY)) {
                    return false;
                }
                by = value;
                step();
            }
            paper.addCurve(kind, by);
            return true;
        }

        int kindOfWord() {
            if (isWord("curve")) {
                return PLAIN;
            }
            if (isWord("added")) {
                return ADDED;
            }
            if (isWord("stretched")) {
                return STRETCHED;
            }
            if (isWord("bent")) {
                return BENT;
            }
            if (isWord("shared")) {
                return SHARED;
            }
            if (isWord("linked")) {
                return LINKED;
            }
            return isWord("dropped") ? DROPPED : -1;
        }

        boolean isNumber(int most) {
            return token == NUMBER && value <= most;
        }

        boolean isWord(String word) {
            if (token != WORD || behind - begin != word.length()) {
                return false;
            }
            for (int i = 0; i < word.length(); i++) {
                if (bytes[begin + i] != word.charAt(i)) {
                    return false;
                }
            }
            return true;
        }

        /** Goes on to the next token. */
        void step() {
            begin = behind;
            while (begin < length && bytes[begin] == ' ') {
                begin++;
            }
            behind = begin;
            if (begin >= length) {
                token = END;
            } else if (isLetter(bytes[begin])) {
                token = WORD;
                while (behind < length && isLetter(bytes[behind])) {
                    behind++;
                }
            } else if (isDigit(bytes[begin])) {
                token = NUMBER;
                stepOverDigits();
            } else {
                token = bytes[begin] == ';' ? SEMICOLON : NO_TOKEN;
                behind++;
            }
        }

        void stepOverDigits() {
            value = 0;
            while (behind < length && isDigit(bytes[behind])) {
                value = Math.min(10 * value + bytes[behind] - '0', MOST_NUMBER + 1);
                behind++;
            }
        }

        static boolean isLetter(int b) {
            return b >= 'a' && b <= 'z';
        }

        static boolean isDigit(int b) {
            return b >= '0' && b <= '9';
        }
    }

    /** A row of numbers of so many bits; of 0 bits it is missing. */
    private static final class Sheet {
        static final int MOST_NUMBERS = 40;

        final int[] numbers = new int[MOST_NUMBERS];
        int bits = 0;
        int size = 0;

        boolean isMissing() {
            return bits == 0;
        }

        void renew(int bitsThen, int n) {
            bits = bitsThen;
            size = bitsThen == 0 ? 0 : n;
            Arrays.fill(numbers, 0);
        }

        void put(int i, int v) {
            int above = 32 - bits;
            numbers[i] = v << above >> above;
        }

        /** The lengths are compared so that no sum of wild numbers wraps around. */
        boolean hasRun(int from, int n) {
            return from >= 0 && n >= 0 && n <= size && from <= size - n;
        }
    }
}
