import java.util.ArrayList;
import java.util.HashMap;
import java.util.List;
import java.util.Map;

/**
 * Long runs of calls, each answered by MergeLine and by a second writing of the document that takes
 * no care of room or speed: lists of lists, and keep() by doing all calls again.
 */
public final class ModelTest {
    static final int NONE = -1, BAD = -2, STATE = -3, FULL = -4;
    static final String[] NAMES = {"line", "test", "odds", "tries", "holds", "change", "edit", "revert", "pair",
        "fits", "touches", "queue", "leave", "hand", "size", "go", "about", "inLine", "inWork", "at", "log",
        "alter", "check", "keep", "goBack", "count"};
    static final int LINE = 0, TEST = 1, ODDS = 2, TRIES = 3, HOLDS = 4, CHANGE = 5, EDIT = 6, REVERT = 7, PAIR = 8,
        FITS = 9, TOUCHES = 10, QUEUE = 11, LEAVE = 12, HAND = 13, SIZE = 14, GO = 15, ABOUT = 16, INLINE = 17,
        INWORK = 18, AT = 19, LOG = 20, ALTER = 21, CHECK = 22, KEEP = 23, GOBACK = 24, COUNT = 25;

    record Line(int value, int mark) { }

    static final class Edit {
        int file, ahead, behind;
        List<Line> taken = new ArrayList<>(), put = new ArrayList<>();
    }

    static final class Change {
        int number, kind, base, with = NONE, failed = NONE, end = 0;
        boolean hand, queued;
        Change partner;
        List<Edit> edits = new ArrayList<>();
    }

    static final class Row {
        List<List<Change>> units = new ArrayList<>();
        boolean doomed;
        int failed = NONE;
        Row others;
    }

    /** The document, said again. */
    static final class Model {
        final int seed;
        List<int[]> history = new ArrayList<>();
        List<int[]> kept;
        List<List<List<Line>>> states = new ArrayList<>();
        List<int[]> tests = new ArrayList<>();
        List<Change> changes = new ArrayList<>(), line = new ArrayList<>();
        List<Row> work = new ArrayList<>();
        List<int[]> log = new ArrayList<>(), truth = new ArrayList<>();
        int marks, tries, z, m = 1, h = 1, size = 4;

        Model(int seed) {
            this.seed = seed;
            z = seed;
            List<List<Line>> empty = new ArrayList<>();
            for (int i = 0; i < 8; i++) empty.add(new ArrayList<>());
            states.add(empty);
        }

        List<List<Line>> latest() { return states.get(states.size() - 1); }

        static boolean in(int x, int from, int to) { return x >= from && x <= to; }

        int call(int[] c) {
            history.add(c);
            return answer(c);
        }

        private int answer(int[] c) {
            boolean isC = c[0] >= EDIT && c[0] <= HAND || c[0] == ABOUT;
            if (isC && !in(c[1], 0, changes.size() - 1)) return BAD;
            Change x = isC ? changes.get(c[1]) : null;
            switch (c[0]) {
                case LINE:
                    if (!in(c[1], 0, 7) || !in(c[2], 0, 9999)) return BAD;
                    if (!changes.isEmpty()) return STATE;
                    if (latest().get(c[1]).size() == 24) return FULL;
                    latest().get(c[1]).add(new Line(c[2], ++marks));
                    return marks;
                case TEST:
                    if (!in(c[1], 0, 4) || !in(c[2], 0, c[1] == 1 ? 31 : 7)) return BAD;
                    if (c[1] == 0 && (!in(c[3], 1, 1000) || !in(c[4], 0, c[3] - 1))) return BAD;
                    if (c[1] == 1 && !in(c[3], 0, 9)) return BAD;
                    if (c[1] == 3 && (!in(c[3], 0, 24) || !in(c[4], 0, 24))) return BAD;
                    if (tests.size() == 24) return FULL;
                    tests.add(new int[] {c[1], c[2], c[3], c[4], 0});
                    return tests.size() - 1;
                case ODDS:
                    if (!in(c[1], 0, tests.size() - 1) || !in(c[2], 0, 999)) return BAD;
                    tests.get(c[1])[4] = c[2];
                    return 1;
                case TRIES:
                    if (!in(c[1], 1, 9) || !in(c[2], 1, c[1])) return BAD;
                    m = c[1];
                    h = c[2];
                    return 1;
                case HOLDS:
                    if (!in(c[1], 0, tests.size() - 1) || !in(c[2], 0, states.size() - 1)) return BAD;
                    return holds(tests.get(c[1]), states.get(c[2])) ? 1 : 0;
                case CHANGE:
                    if (!in(c[1], 0, 3)) return BAD;
                    if (changes.size() == 60) return FULL;
                    return newChange(c[1], new ArrayList<>());
                case EDIT: return edit(c, x);
                case REVERT:
                    if (x.end != 4) return STATE;
                    List<Edit> turned = new ArrayList<>();
                    for (Edit e : x.edits) {
                        Edit t = new Edit();
                        t.file = e.file;
                        t.ahead = e.ahead;
                        t.behind = e.behind;
                        t.taken.addAll(e.put);
                        t.put.addAll(e.taken);
                        turned.add(t);
                    }
                    for (Edit e : turned) if (done(e, latest()) == null) return STATE;
                    if (changes.size() == 60) return FULL;
                    return newChange(4, turned);
                case PAIR:
                    if (!in(c[2], 0, changes.size() - 1) || c[1] == c[2]) return BAD;
                    Change y = changes.get(c[2]);
                    if (x.queued || y.queued || x.partner != null || y.partner != null) return STATE;
                    x.partner = y;
                    y.partner = x;
                    return 1;
                case FITS: return after(latest(), List.of(x)) != null ? 1 : 0;
                case TOUCHES:
                    if (!in(c[2], 0, tests.size() - 1)) return BAD;
                    return touches(x, tests.get(c[2])) ? 1 : 0;
                case QUEUE:
                    if (x.queued || x.edits.isEmpty()) return STATE;
                    x.queued = true;
                    line.add(x);
                    return line.size() - 1;
                case LEAVE:
                    if (!line.remove(x)) return STATE;
                    x.end = 7;
                    return 1;
                case HAND:
                    if (x.kind != 3) return STATE;
                    boolean was = x.hand;
                    x.hand = c[2] != 0;
                    return was ? 1 : 0;
                case SIZE:
                    if (!in(c[1], 1, 8)) return BAD;
                    int old = size;
                    size = c[1];
                    return old;
                case GO:
                    if (!in(c[1], 1, 10)) return BAD;
                    if (log.size() + c[1] > 600) return FULL;
                    int from = log.size();
                    while (log.size() < from + c[1] && step()) { }
                    return log.size() - from;
                case ABOUT:
                    if (c[2] == 0) return x.kind;
                    if (c[2] == 1) return stand(x);
                    if (c[2] == 2) return x.with;
                    if (c[2] == 3) return x.failed;
                    if (c[2] == 4) return x.edits.size();
                    if (c[2] == 5) return x.partner == null ? NONE : x.partner.number;
                    return BAD;
                case INLINE: return in(c[1], 0, line.size() - 1) ? line.get(c[1]).number : NONE;
                case INWORK:
                    List<Change> all = inWork();
                    return in(c[1], 0, all.size() - 1) ? all.get(c[1]).number : NONE;
                case AT:
                    if (!in(c[1], 0, states.size() - 1) || !in(c[2], 0, 7) || !in(c[4], 0, 1)) return BAD;
                    List<Line> f = states.get(c[1]).get(c[2]);
                    if (!in(c[3], 0, f.size() - 1)) return NONE;
                    return c[4] == 0 ? f.get(c[3]).value() : f.get(c[3]).mark();
                case LOG:
                    if (!in(c[2], 0, 3)) return BAD;
                    return in(c[1], 0, log.size() - 1) ? log.get(c[1])[c[2]] : NONE;
                case ALTER:
                    if (!in(c[1], 0, log.size() - 1) || !in(c[2], 0, 3) || c[3] == 0) return BAD;
                    return log.get(c[1])[c[2]] ^= c[3];
                case CHECK:
                    for (int i = 0; i < log.size(); i++) {
                        if (!java.util.Arrays.equals(log.get(i), truth.get(i))) return i;
                    }
                    return NONE;
                case KEEP:
                    kept = new ArrayList<>(history);
                    return 1;
                case GOBACK: return goBack();
                default: return count(c[1]);
            }
        }

        int goBack() {
            if (kept == null) return STATE;
            Model again = new Model(seed);
            for (int[] c : kept) if (c[0] != GOBACK && c[0] != KEEP) again.call(c);
            history = new ArrayList<>(kept);
            states = again.states;
            tests = again.tests;
            changes = again.changes;
            line = again.line;
            work = again.work;
            log = again.log;
            truth = again.truth;
            marks = again.marks;
            tries = again.tries;
            z = again.z;
            m = again.m;
            h = again.h;
            size = again.size;
            return 1;
        }

        int count(int what) {
            int lines = 0;
            for (List<Line> f : latest()) lines += f.size();
            int[] all = {lines, tests.size(), changes.size(), line.size(), inWork().size(), work.size(),
                states.size() - 1, log.size(), marks, tries};
            return in(what, 0, 9) ? all[what] : BAD;
        }

        int newChange(int kind, List<Edit> edits) {
            Change x = new Change();
            x.number = changes.size();
            x.kind = kind;
            x.base = states.size() - 1;
            x.edits = edits;
            changes.add(x);
            return x.number;
        }

        int edit(int[] c, Change x) {
            int at = c[3], t = c[4], p = c[5], v = c[6];
            if (!in(c[2], 0, 7) || !in(t, 0, 6) || !in(p, 0, 4) || t + p == 0) return BAD;
            List<Line> f = latest().get(c[2]);
            if (at < 0 || (long) at + t > f.size() || v < 0 || (long) v + p > 9999) return BAD;
            if (x.queued || x.base != states.size() - 1 || x.kind == 4) return STATE;
            for (Edit e : x.edits) if (e.file == c[2]) return STATE;
            if (x.edits.size() == 4 || f.size() - t + p > 24) return FULL;
            Edit e = new Edit();
            e.file = c[2];
            e.ahead = at == 0 ? 0 : f.get(at - 1).mark();
            e.behind = at + t == f.size() ? 0 : f.get(at + t).mark();
            e.taken.addAll(f.subList(at, at + t));
            for (int i = 0; i < p; i++) e.put.add(new Line(v + i, ++marks));
            x.edits.add(e);
            return x.edits.size();
        }

        int stand(Change x) {
            if (!line.contains(x)) return x.end;
            if (inWork().contains(x)) return 3;
            return ready(unitOf(x)) ? 1 : 2;
        }

        List<Change> inWork() {
            List<Change> all = new ArrayList<>();
            for (int i = work.size() - 1; i >= 0; i--) for (List<Change> u : work.get(i).units) all.addAll(u);
            return all;
        }

        static int given(Line l) { return in(l.value(), 1000, 1031) ? l.value() - 1000 : NONE; }

        static boolean holds(int[] t, List<List<Line>> state) {
            Map<Integer, Integer> names = new HashMap<>();
            for (List<Line> f : state) for (Line l : f) if (given(l) >= 0) names.merge(given(l), 1, Integer::sum);
            if (t[0] == 1) return names.getOrDefault(t[1], 0) >= t[2];
            List<Line> f = state.get(t[1]);
            if (t[0] == 0) return f.stream().mapToInt(Line::value).sum() % t[2] == t[3];
            if (t[0] == 3) return f.size() >= t[2] && f.size() <= t[3];
            if (t[0] == 2) {
                return f.stream().allMatch(l -> !in(l.value(), 2000, 2031) || names.containsKey(l.value() - 2000));
            }
            for (int i = 1; i < f.size(); i++) if (f.get(i).value() < f.get(i - 1).value()) return false;
            return true;
        }

        boolean passes(int t, List<List<Line>> state) {
            int[] test = tests.get(t);
            if (test[4] == 0) {
                tries++;
                return holds(test, state);
            }
            int held = 0, failed = 0;
            while (held < h && failed + h <= m) {
                tries++;
                z = z * 1103515245 + 12345;
                if ((z >>> 8) % 1000 < test[4] || !holds(test, state)) failed++; else held++;
            }
            return held == h;
        }

        static boolean touches(Change x, int[] t) {
            for (Edit e : x.edits) {
                if (t[0] != 1 && e.file == t[1]) return true;
                List<Line> both = new ArrayList<>(e.taken);
                both.addAll(e.put);
                for (Line l : both) {
                    if (t[0] == 1 && given(l) == t[1] || t[0] == 2 && given(l) >= 0) return true;
                }
            }
            return false;
        }

        /** The FILE after an EDIT; null, if that does not fit: the MARKS are looked for as a text in a text. */
        static List<Line> done(Edit e, List<List<Line>> state) {
            List<Line> f = state.get(e.file);
            StringBuilder there = new StringBuilder(",0,"), sought = new StringBuilder("," + e.ahead + ",");
            for (Line l : f) there.append(l.mark()).append(',');
            there.append("0,");
            for (Line l : e.taken) sought.append(l.mark()).append(',');
            sought.append(e.behind).append(',');
            int found = there.indexOf(sought.toString());
            if (found < 0) return null;
            int at = (int) there.substring(0, found + 1).chars().filter(ch -> ch == ',').count() - 1;
            List<Line> then = new ArrayList<>(f.subList(0, at));
            then.addAll(e.put);
            then.addAll(f.subList(at + e.taken.size(), f.size()));
            return then.size() > 24 ? null : then;
        }

        static List<List<Line>> after(List<List<Line>> state, List<Change> unit) {
            List<List<Line>> then = state;
            for (Change x : unit) {
                List<List<Line>> next = new ArrayList<>(then);
                for (Edit e : x.edits) {
                    List<Line> f = done(e, then);
                    if (f == null) return null;
                    next.set(e.file, f);
                }
                then = next;
            }
            return then;
        }

        List<Change> unitOf(Change x) {
            if (x.partner == null || !line.contains(x.partner)) return List.of(x);
            return line.indexOf(x) < line.indexOf(x.partner) ? List.of(x, x.partner) : List.of(x.partner, x);
        }

        boolean ready(List<Change> unit) {
            for (Change x : unit) {
                if (!line.contains(x) || x.kind == 3 && !x.hand) return false;
                if (x.partner != null && !line.contains(x.partner)) return false;
            }
            return true;
        }

        static boolean has(List<Change> unit, int kind) { return unit.stream().anyMatch(x -> x.kind == kind); }

        void back(List<Change> unit, int end, int test) {
            for (Change x : unit) {
                line.remove(x);
                x.end = end;
                x.failed = test;
            }
        }

        /** Null: nothing is to be done. */
        Row batch() {
            anew:
            while (true) {
                List<List<Change>> ready = new ArrayList<>();
                for (Change x : line) {
                    List<Change> u = unitOf(x);
                    if (u.get(0) == x && ready(u)) ready.add(u);
                }
                if (ready.isEmpty()) return null;
                List<Change> alone = has(ready.get(0), 2) ? ready.get(0) : null;
                for (int i = ready.size() - 1; i >= 0; i--) if (has(ready.get(i), 1)) alone = ready.get(i);
                Row row = new Row();
                if (alone != null) {
                    if (after(latest(), alone) == null) {
                        back(alone, 5, NONE);
                        continue anew;
                    }
                    row.units.add(alone);
                    return row;
                }
                List<List<Line>> state = latest();
                for (List<Change> u : ready) {
                    if (has(u, 2) || row.units.size() == size) break;
                    List<List<Line>> then = after(state, u);
                    if (then != null) {
                        row.units.add(u);
                        state = then;
                    } else if (after(latest(), u) == null) {
                        back(u, 5, NONE);
                    }
                }
                if (!row.units.isEmpty()) return row;
            }
        }

        boolean step() {
            if (work.isEmpty()) {
                Row row = batch();
                if (row == null) return false;
                work.add(row);
            }
            Row top = work.get(work.size() - 1);
            List<List<Line>> state = latest();
            for (List<Change> u : new ArrayList<>(top.units)) {
                List<List<Line>> then = ready(u) ? after(state, u) : null;
                if (then != null) {
                    state = then;
                } else {
                    top.units.remove(u);
                    top.doomed = false;
                    top.others = null;
                }
            }
            int k = top.units.size();
            if (k == 0) {
                work.remove(top);
            } else if (top.doomed && k == 1) {
                back(top.units.get(0), 6, top.failed);
                work.remove(top);
            } else if (top.doomed) {
                work.remove(top);
                Row first = new Row(), others = new Row();
                first.units.addAll(top.units.subList(0, k / 2));
                others.units.addAll(top.units.subList(k / 2, k));
                first.failed = others.failed = top.failed;
                first.others = others;
                work.add(others);
                work.add(first);
            } else {
                run(top, state);
            }
            return true;
        }

        void run(Row top, List<List<Line>> state) {
            List<Change> all = new ArrayList<>();
            for (List<Change> u : top.units) all.addAll(u);
            int answer = NONE;
            for (int t = 0; t < tests.size() && answer == NONE; t++) {
                int[] test = tests.get(t);
                if (all.stream().anyMatch(x -> touches(x, test)) && !passes(t, state)) answer = t;
            }
            java.math.BigInteger sum = java.math.BigInteger.ZERO;
            for (int i = 0; i < all.size(); i++) {
                sum = sum.add(java.math.BigInteger.valueOf(61).pow(i)
                    .multiply(java.math.BigInteger.valueOf(all.get(i).number + 1)));
            }
            int[] told = {states.size() - 1, all.size(), sum.mod(java.math.BigInteger.valueOf(1000003)).intValue(),
                answer};
            log.add(told);
            truth.add(told.clone());
            if (answer != NONE) {
                top.doomed = true;
                top.failed = answer;
                return;
            }
            states.add(state);
            for (Change x : all) {
                line.remove(x);
                x.end = 4;
                x.with = states.size() - 1;
            }
            work.remove(top);
            if (top.others != null) top.others.doomed = true;
        }
    }

    static int ask(MergeLine x, int[] c) {
        switch (c[0]) {
            case LINE: return x.line(c[1], c[2]);
            case TEST: return x.test(c[1], c[2], c[3], c[4]);
            case ODDS: return x.odds(c[1], c[2]);
            case TRIES: return x.tries(c[1], c[2]);
            case HOLDS: return x.holds(c[1], c[2]);
            case CHANGE: return x.change(c[1]);
            case EDIT: return x.edit(c[1], c[2], c[3], c[4], c[5], c[6]);
            case REVERT: return x.revert(c[1]);
            case PAIR: return x.pair(c[1], c[2]);
            case FITS: return x.fits(c[1]);
            case TOUCHES: return x.touches(c[1], c[2]);
            case QUEUE: return x.queue(c[1]);
            case LEAVE: return x.leave(c[1]);
            case HAND: return x.hand(c[1], c[2] != 0);
            case SIZE: return x.size(c[1]);
            case GO: return x.go(c[1]);
            case ABOUT: return x.about(c[1], c[2]);
            case INLINE: return x.inLine(c[1]);
            case INWORK: return x.inWork(c[1]);
            case AT: return x.at(c[1], c[2], c[3], c[4]);
            case LOG: return x.log(c[1], c[2]);
            case ALTER: return x.alter(c[1], c[2], c[3]);
            case CHECK: return x.check();
            case KEEP: return x.keep();
            case GOBACK: return x.goBack();
            default: return x.count(c[1]);
        }
    }

    static long dice = 1;

    static int roll(int n) {
        dice = dice * 6364136223846793005L + 1442695040888963407L;
        return (int) ((dice >>> 33) % n);
    }

    static final int[] ODD = {-1, -2, Integer.MIN_VALUE, Integer.MAX_VALUE, 8, 24, 25, 32, 60, 61, 1000, 9999, 10000};

    static boolean wild;

    /** A number below n, now and then one of no sense. */
    static int num(int n) {
        if (roll(wild ? 8 : 60) == 0) return ODD[roll(ODD.length)];
        return roll(Math.max(1, n));
    }

    static int value() {
        int k = roll(6);
        return k < 2 ? 1000 + roll(4) : k == 2 ? 2000 + roll(4) : roll(20);
    }

    static int[] c(int... numbers) { return numbers; }

    static int[] randomTest(int[] mood) {
        int kind = num(5);
        if (kind == 0) {
            int b = mood[0] == 0 ? 1 + roll(2) : 1 + num(4);
            return c(TEST, 0, num(4), b, num(Math.max(1, b)));
        }
        if (kind == 1) return c(TEST, 1, num(5), num(3), num(3));
        if (kind == 3) return c(TEST, 3, num(4), num(3), 24 - num(20));
        return c(TEST, kind, num(4), num(9), num(9));
    }

    static int[] randomEdit(Model m, int change) {
        int file = num(4);
        int length = file >= 0 && file < 8 ? m.latest().get(file).size() : 3;
        int at = num(length + 1);
        int t = roll(3) == 0 ? num(7) : num(3);
        if (roll(10) > 0 && at >= 0 && at <= length) t = Math.min(t, length - at);
        return c(EDIT, change, file, at, t, num(5), roll(30) == 0 ? 9990 + num(12) : value());
    }

    static int latestChange(Model m) {
        return roll(3) > 0 ? m.changes.size() - 1 - roll(Math.max(1, Math.min(4, m.changes.size()))) : num(m.changes.size());
    }

    static int[] pick(Model m, int[] mood) {
        int k = roll(100);
        if (k < 12) return c(CHANGE, num(10) < mood[1] ? num(4) : 0);
        if (k < 34) return randomEdit(m, latestChange(m));
        if (k < 46) return c(QUEUE, latestChange(m));
        if (k < 58) return c(GO, roll(4) == 0 ? num(12) : 1 + roll(mood[2]));
        if (k < 60) return c(PAIR, latestChange(m), latestChange(m));
        if (k < 64) return c(HAND, heldOne(m), roll(3));
        if (k < 66) return c(LEAVE, roll(2) == 0 && !m.line.isEmpty() ? m.line.get(roll(m.line.size())).number : num(60));
        if (k < 69) return c(REVERT, takenOne(m));
        if (k < 71) return c(SIZE, num(9));
        if (k < 73) return roll(3) == 0 ? randomTest(mood) : c(ODDS, num(m.tests.size()), roll(2) * num(700));
        if (k < 74) return c(TRIES, 1 + num(4), 1 + num(3));
        if (k == 74) return roll(3) == 0 ? c(KEEP) : c(CHECK);
        if (k == 75) return roll(mood[3]) == 0 ? c(GOBACK) : c(CHECK);
        if (k == 76) return c(ALTER, num(m.log.size()), num(4), num(4));
        if (k < 79) return c(FITS, num(m.changes.size()));
        if (k < 81) return c(TOUCHES, num(m.changes.size()), num(m.tests.size()));
        if (k < 83) return c(HOLDS, num(m.tests.size()), num(m.states.size()));
        if (k < 87) return c(ABOUT, num(m.changes.size()), num(6));
        if (k < 89) return c(INLINE, num(m.line.size() + 1));
        if (k < 92) return c(INWORK, num(9));
        if (k < 95) return c(AT, num(m.states.size()), num(4), num(8), num(2));
        if (k < 97) return c(LOG, num(m.log.size() + 1), num(4));
        return k == 97 ? c(LINE, num(8), value()) : c(COUNT, num(10));
    }

    static int heldOne(Model m) {
        for (int i = 0; i < 20 && !m.changes.isEmpty(); i++) {
            Change x = m.changes.get(roll(m.changes.size()));
            if (x.kind == 3) return x.number;
        }
        return num(m.changes.size());
    }

    static int takenOne(Model m) {
        for (int i = 0; i < 20 && !m.changes.isEmpty(); i++) {
            Change x = m.changes.get(roll(m.changes.size()));
            if (x.end == 4) return x.number;
        }
        return num(m.changes.size());
    }

    static int wrong = 0;
    static final Map<String, Integer> seen = new HashMap<>();

    static boolean same(int run, Model m, MergeLine x, int[] c) {
        int due = m.call(c);
        int got = ask(x, c);
        seen.merge(NAMES[c[0]] + (due < 0 && due >= FULL && c[0] != LOG && c[0] != ALTER ? " " + due : ""), 1, Integer::sum);
        if (got == due) return true;
        wrong++;
        System.out.println("run " + run + ", call " + m.history.size() + ": " + NAMES[c[0]]
            + java.util.Arrays.toString(java.util.Arrays.copyOfRange(c, 1, c.length)) + " answered " + got + ", due is " + due);
        return false;
    }

    /** Every answer that can be asked for; on a copy of the talk, so these count as no calls of the run. */
    static boolean allSame(int run, Model m, MergeLine x) {
        boolean ok = true;
        for (int i = 0; i < 10 && ok; i++) ok = same(run, m, x, c(COUNT, i));
        for (int i = 0; i < m.changes.size() && ok; i++) {
            for (int w = 0; w < 6 && ok; w++) ok = same(run, m, x, c(ABOUT, i, w));
            for (int t = 0; t < m.tests.size() && ok; t++) ok = same(run, m, x, c(TOUCHES, i, t));
            ok = ok && same(run, m, x, c(FITS, i));
            ok = ok && same(run, m, x, c(INLINE, i)) && same(run, m, x, c(INWORK, i));
        }
        for (int i = 0; i < m.log.size() && ok; i++) for (int w = 0; w < 4 && ok; w++) ok = same(run, m, x, c(LOG, i, w));
        for (int s = 0; s < m.states.size() && ok; s++) {
            for (int f = 0; f < 8 && ok; f++) {
                for (int i = 0; i <= m.states.get(s).get(f).size() && ok; i++) {
                    ok = same(run, m, x, c(AT, s, f, i, 0)) && same(run, m, x, c(AT, s, f, i, 1));
                }
            }
            for (int t = 0; t < m.tests.size() && ok; t++) ok = same(run, m, x, c(HOLDS, t, s));
        }
        return ok && same(run, m, x, c(CHECK));
    }

    /** Many CHANGES wait, then WORK goes by single RUNS while hands, TESTS and THE LINE are meddled with. */
    static boolean busyRun(int run) {
        dice = run * 104729L + 5;
        wild = false;
        int held = roll(4), paired = roll(3), leaving = roll(3), failing = roll(3);
        Model m = new Model(run);
        MergeLine x = new MergeLine(run);
        boolean ok = same(run, m, x, c(SIZE, roll(3) == 0 ? 1 + roll(8) : 8));
        for (int i = 0; i < 48 && ok; i++) ok = same(run, m, x, c(LINE, i % 4, value()));
        for (int i = 0; i < 3 + roll(4) && ok; i++) ok = same(run, m, x, randomTest(c(1)));
        for (int i = 0; i < m.tests.size() && ok; i++) {
            if (roll(3) < failing) ok = same(run, m, x, c(ODDS, i, roll(500)));
        }
        while (m.history.size() < 480 && ok) {
            int wave = 2 + roll(12), from = m.changes.size();
            for (int i = 0; i < wave && ok; i++) {
                ok = same(run, m, x, c(CHANGE, roll(4) < held ? 3 : roll(12) == 0 ? roll(4) : 0));
                for (int j = 0; j < 2 && ok; j++) {
                    int f = roll(4), n = m.latest().get(f).size(), at = roll(n + 1);
                    ok = m.changes.isEmpty() || same(run, m, x, c(EDIT, m.changes.size() - 1, f, at,
                        Math.min(roll(2), n - at), roll(3), value()));
                    if (roll(2) == 0) break;
                }
                if (roll(6) == 0 && ok) ok = same(run, m, x, c(REVERT, takenOne(m)));
                if (roll(5) < paired && ok) ok = same(run, m, x, c(PAIR, m.changes.size() - 1, m.changes.size() - 1 - roll(4)));
            }
            for (int i = from; i < m.changes.size() && ok; i++) {
                ok = same(run, m, x, c(QUEUE, i));
                if (m.changes.get(i).kind == 3 && ok && roll(8) > 0) ok = same(run, m, x, c(HAND, i, 1));
            }
            int meddling = 4 + roll(40);
            for (int i = 0; i < meddling && ok && m.history.size() < 505; i++) ok = meddle(run, m, x, leaving);
        }
        return ok && allSame(run, m, x);
    }

    static boolean meddle(int run, Model m, MergeLine x, int leaving) {
        List<Change> all = m.inWork();
        if (m.work.size() > 2) seen.merge("(three ROWS)", 1, Integer::sum);
        for (Row r : m.work) {
            if (r.doomed) seen.merge("(a DOOMED ROW)", 1, Integer::sum);
            if (r.others != null) seen.merge("(a first half)", 1, Integer::sum);
            for (List<Change> u : r.units) {
                if (u.size() > 1) seen.merge("(a PAIR in a ROW)", 1, Integer::sum);
                if (!m.ready(u)) seen.merge("(a UNIT in a ROW that is not READY)", 1, Integer::sum);
            }
        }
        int some = all.isEmpty() ? num(m.changes.size()) : all.get(roll(all.size())).number;
        int k = roll(40);
        if (k < 20) return same(run, m, x, c(GO, roll(8) == 0 ? 1 + roll(3) : 1));
        if (k < 22) return same(run, m, x, c(HAND, roll(2) == 0 ? some : heldOne(m), roll(2)));
        if (k < 22 + leaving) return same(run, m, x, c(LEAVE, some));
        if (k == 25) return m.tests.isEmpty() || same(run, m, x, c(ODDS, roll(m.tests.size()), roll(2) * roll(900)));
        if (k == 26) return roll(3) > 0 || same(run, m, x, c(KEEP));
        if (k == 27) return roll(4) > 0 || same(run, m, x, c(GOBACK));
        if (k == 28) return same(run, m, x, c(TRIES, 1 + num(4), 1 + num(3)));
        if (k < 35) return same(run, m, x, c(INWORK, roll(all.size() + 1)));
        if (k < 37) return same(run, m, x, c(COUNT, 4 + roll(2)));
        return same(run, m, x, c(ABOUT, some, 1 + 2 * roll(2)));
    }

    static boolean oneRun(int run) {
        dice = run * 7919L + 17;
        wild = run % 10 == 0;
        int[] mood = {roll(3), roll(11), 1 + roll(5), 1 + roll(3)};
        int seed = roll(1 << 30) - (1 << 29);
        Model m = new Model(seed);
        MergeLine x = new MergeLine(seed);
        boolean ok = true;
        int lines = roll(40);
        int full = roll(12) == 0 ? 22 + roll(3) : 0;
        for (int i = 0; i < full && ok; i++) ok = same(run, m, x, c(LINE, 0, value()));
        for (int i = 0; i < lines && ok; i++) ok = same(run, m, x, c(LINE, num(4), value()));
        int tests = roll(8);
        for (int i = 0; i < tests && ok; i++) {
            ok = same(run, m, x, randomTest(mood));
            if (roll(3) == 0 && ok) ok = same(run, m, x, c(ODDS, i, roll(600)));
        }
        if (roll(2) == 0 && ok) ok = same(run, m, x, c(TRIES, 1 + roll(5), 1 + roll(3)));
        if (roll(2) == 0 && ok) ok = same(run, m, x, c(SIZE, 1 + roll(8)));
        while (m.history.size() < 500 && ok) ok = same(run, m, x, pick(m, mood));
        return ok && allSame(run, m, x);
    }

    public static void main(String[] args) {
        int runs = args.length > 0 ? Integer.parseInt(args[0]) : 1500;
        for (int run = 0; run < runs && wrong < 10; run++) {
            oneRun(run);
            busyRun(run);
        }
        if (args.length > 1) seen.entrySet().stream().sorted(Map.Entry.comparingByKey())
            .forEach(e -> System.out.println(e.getKey() + ": " + e.getValue()));
        System.out.println(wrong == 0 ? 2 * runs + " runs are as the model has them" : wrong + " answers are not as due");
        if (wrong != 0) System.exit(1);
    }
}
