import java.math.BigInteger;
import java.util.function.IntUnaryOperator;

/** What the tests share: calls in short, what an object tells of itself, and the answers that are due. */
class Dues {
    static final int NONE = -1, BAD = -2, STATE = -3, FULL = -4;
    static final int LEAST = Integer.MIN_VALUE, MOST = Integer.MAX_VALUE;
    static final int[] WRONG = {-1, LEAST, MOST};
    static final int PLAIN = 0, URGENT = 1, WIDE = 2, HELD = 3, REVERT = 4;
    static final int SUM = 0, GIVEN = 1, KNOWN = 2, LONG = 3, RISING = 4;
    static final int MAKING = 0, READY = 1, NOT_READY = 2, IN_ROW = 3, TAKEN = 4, CLASH = 5, FAILS = 6, GONE = 7;

    private static final int MOST_TOLD = 20;
    private static String sentence = "";
    private static int sentences = 0, wrong = 0;

    /** A sentence of the document, or a part of it, and what would not be so if it were broken. */
    static void sentence(String words, Runnable test) {
        sentence = words;
        sentences++;
        test.run();
    }

    static void due(String what, int got, int want) {
        if (got == want || wrong++ >= MOST_TOLD) return;
        System.out.println("\"" + sentence + "\", " + what + ": answered " + got + ", due is " + want);
    }

    static void due(String what, String got, String want) {
        if (got.equals(want) || wrong++ >= MOST_TOLD) return;
        System.out.println("\"" + sentence + "\", " + what + ":\n    told    " + got + "\n    due is  " + want);
    }

    /** A call with one number left open: from .. to are as told, what lies beyond on either side is BAD. */
    static void dueRange(String what, int from, int to, IntUnaryOperator call) {
        for (int n : new int[] {from - 1, to + 1, LEAST, MOST}) due(what + " of " + n, call.applyAsInt(n), BAD);
        for (int n : new int[] {from, to}) {
            int got = call.applyAsInt(n);
            due(what + " of " + n + " is as told", got == BAD ? 0 : 1, 1);
        }
    }

    static void end() {
        if (wrong == 0) System.out.println(sentences + " sentences hold");
        else System.out.println(wrong + " answers are not as due");
        if (wrong != 0) System.exit(1);
    }

    // ---- what there is at first

    /** FILE 0: 10 20 30 40 with MARKS 1 to 4; FILE 1: 1001 2001 with 5, 6; FILE 2: 7 with 7. */
    static MergeLine code() {
        MergeLine x = new MergeLine(3);
        lines(x, 0, 10, 20, 30, 40);
        lines(x, 1, 1001, 2001);
        lines(x, 2, 7);
        return x;
    }

    static MergeLine empty() {
        return new MergeLine(1);
    }

    static void lines(MergeLine x, int file, int... values) {
        for (int value : values) x.line(file, value);
    }

    /** FILE 0 with n LINES, whose VALUES are 0, 1, .. */
    static MergeLine counting(int n) {
        MergeLine x = empty();
        for (int i = 0; i < n; i++) x.line(0, i);
        return x;
    }

    // ---- CHANGES

    static int changed(MergeLine x, int kind, int file, int at, int t, int p, int v) {
        int change = x.change(kind);
        x.edit(change, file, at, t, p, v);
        return change;
    }

    static int queued(MergeLine x, int kind, int file, int at, int t, int p, int v) {
        int change = changed(x, kind, file, at, t, p, v);
        x.queue(change);
        return change;
    }

    /** A CHANGE that puts a LINE at the beginning of a FILE. */
    static int put(MergeLine x, int kind, int file) {
        return changed(x, kind, file, 0, 0, 1, 100 + file);
    }

    static int waiting(MergeLine x, int kind, int file) {
        return queued(x, kind, file, 0, 0, 1, 100 + file);
    }

    /** A PLAIN CHANGE in THE LINE for each FILE from 0 on; each FITS behind all others. */
    static void waitingRow(MergeLine x, int n) {
        for (int file = 0; file < n; file++) waiting(x, PLAIN, file);
    }

    /** Makes a STATE: a CHANGE that is TAKEN at once. */
    static int taken(MergeLine x, int file, int at, int t, int p, int v) {
        int change = queued(x, URGENT, file, at, t, p, v);
        x.go(1);
        return change;
    }

    /** A TEST that holds as long as a FILE has no LINES. */
    static int ban(MergeLine x, int file) {
        return x.test(LONG, file, 0, 0);
    }

    // ---- what an object tells

    static String values(MergeLine x, int state, int file) {
        return told(x, state, file, 0);
    }

    static String marks(MergeLine x, int state, int file) {
        return told(x, state, file, 1);
    }

    private static String told(MergeLine x, int state, int file, int what) {
        StringBuilder all = new StringBuilder();
        for (int i = 0; i < 30 && x.at(state, file, i, what) != NONE; i++) {
            all.append(i == 0 ? "" : " ").append(x.at(state, file, i, what));
        }
        return all.toString();
    }

    static String latest(MergeLine x, int file) {
        return values(x, x.count(6), file);
    }

    static String log(MergeLine x, int run) {
        return x.log(run, 0) + " " + x.log(run, 1) + " " + x.log(run, 2) + " " + x.log(run, 3);
    }

    /** A RUN as THE LOG is due to tell it: a STATE, an answer, and the CHANGES in order. */
    static String run(int state, int answer, int... changes) {
        BigInteger sum = BigInteger.ZERO;
        for (int i = 0; i < changes.length; i++) {
            sum = sum.add(BigInteger.valueOf(61).pow(i).multiply(BigInteger.valueOf(changes[i] + 1)));
        }
        return state + " " + changes.length + " " + sum.mod(BigInteger.valueOf(1000003)) + " " + answer;
    }

    static String work(MergeLine x) {
        StringBuilder all = new StringBuilder();
        for (int k = 0; k < 70 && x.inWork(k) != NONE; k++) all.append(k == 0 ? "" : " ").append(x.inWork(k));
        return all.toString();
    }

    static String theLine(MergeLine x) {
        StringBuilder all = new StringBuilder();
        for (int k = 0; k < 70 && x.inLine(k) != NONE; k++) all.append(k == 0 ? "" : " ").append(x.inLine(k));
        return all.toString();
    }

    /** What each CHANGE is, as about(.., 1) tells it. */
    static String stands(MergeLine x) {
        StringBuilder all = new StringBuilder();
        for (int i = 0; i < x.count(2); i++) all.append(x.about(i, 1));
        return all.toString();
    }

    static String counts(MergeLine x) {
        StringBuilder all = new StringBuilder();
        for (int i = 0; i < 10; i++) all.append(i == 0 ? "" : " ").append(x.count(i));
        return all.toString();
    }

    static String touched(MergeLine x, int change) {
        StringBuilder all = new StringBuilder();
        for (int test = 0; test < x.count(1); test++) all.append(x.touches(change, test));
        return all.toString();
    }

    /** All that can be asked for without a change. */
    static String everything(MergeLine x) {
        StringBuilder all = new StringBuilder(counts(x));
        for (int i = 0; i < x.count(2); i++) {
            all.append("\n").append(i).append(':');
            for (int what = 0; what < 6; what++) all.append(' ').append(x.about(i, what));
            all.append(" fits ").append(x.fits(i)).append(" touches ").append(touched(x, i));
        }
        for (int i = 0; i < x.count(7); i++) all.append("\nrun ").append(log(x, i));
        for (int s = 0; s <= x.count(6); s++) {
            for (int f = 0; f < 8; f++) all.append('\n').append(values(x, s, f)).append('/').append(marks(x, s, f));
            for (int t = 0; t < x.count(1); t++) all.append(' ').append(x.holds(t, s));
        }
        return all.append('\n').append(theLine(x)).append('/').append(work(x)).append('/').append(x.check()).toString();
    }

    // ---- what decides of TESTS that are SHAKY

    /** (z >>> 8) modulo 1000 at the n-th try, from 1 on, reckoned with numbers that do not wrap. */
    static int drawn(int seed, int n) {
        long z = seed & 0xFFFFFFFFL;
        for (int i = 0; i < n; i++) z = (z * 1103515245L + 12345L) % (1L << 32);
        return (int) (z / 256 % 1000);
    }

    /** A SEED with which the tries of a TEST that holds go so with ODDS 500: H holds, F fails by itself. */
    static int seedFor(String tries) {
        for (int seed = 1; ; seed++) {
            boolean same = true;
            for (int i = 0; i < tries.length() && same; i++) {
                same = drawn(seed, i + 1) < 500 == (tries.charAt(i) == 'F');
            }
            if (same) return seed;
        }
    }
}
