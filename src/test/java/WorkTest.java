/** The sentences of part 3 on WORK, of part 4, THE LOG, and of the promises 17, 18 and 20. */
public final class WorkTest extends Dues {

    /** In THE LINE there is a CHANGE for each FILE from 0 on; it FAILS, if its FILE is one of those. */
    static MergeLine row(int n, int... banned) {
        MergeLine x = empty();
        x.size(8);
        for (int file : banned) ban(x, file);
        waitingRow(x, n);
        return x;
    }

    /** All are HELD and have HANDS. */
    static MergeLine heldRow(int n, int... banned) {
        MergeLine x = empty();
        x.size(8);
        for (int file : banned) ban(x, file);
        for (int i = 0; i < n; i++) x.hand(waiting(x, HELD, i), true);
        return x;
    }

    /** RUNS as THE LOG is due to tell them all. */
    static void dueLog(String what, MergeLine x, String... runs) {
        due(what + ": RUNS", x.count(7), runs.length);
        for (int i = 0; i < runs.length; i++) due(what + ": RUN " + i, log(x, i), runs[i]);
    }

    static void topmost() {
        sentence("With nothing there a BATCH is made, and is a ROW", () -> {
            MergeLine x = row(3, 2);
            due("nothing ahead of go()", work(x) + "/" + x.count(5), "/0");
            x.go(1);
            due("a ROW", work(x) + "/" + x.count(5), "0 1 2/1");
            int urgent = waiting(x, URGENT, 7);
            x.go(1);
            due("with a ROW there none is made: RUN 1", log(x, 1), run(0, NONE, 0));
            due("the URGENT one waits", x.about(urgent, 1), READY);
            x.go(1);
            due("RUN 2", log(x, 2), run(1, NONE, 1));
            x.go(1);
            due("RUN 3", log(x, 3), run(2, NONE, urgent));
        });
        sentence("Of the topmost ROW: UNITS that are not READY any more leave it (they stay in THE LINE; what is left is not DOOMED)", () -> {
            MergeLine x = heldRow(4, 3);
            x.go(1);
            x.hand(1, false);
            due("ahead of go() it is there", work(x) + "/" + stands(x), "0 1 2 3/3333");
            x.go(1);
            dueLog("what is left is RUN, not halved", x, run(0, 0, 0, 1, 2, 3), run(0, 0, 0, 2, 3));
            due("1 stays in THE LINE", theLine(x), "0 1 2 3");
            due("not READY", stands(x), "3233");
            MergeLine y = heldRow(3, 2);
            y.go(1);
            y.leave(1);
            y.go(1);
            dueLog("one that left THE LINE", y, run(0, 0, 0, 1, 2), run(0, 0, 0, 2));
            MergeLine z = heldRow(4, 3);
            z.pair(put(z, PLAIN, 5), put(z, PLAIN, 6));
            z.queue(4);
            z.queue(5);
            z.go(1);
            z.leave(5);
            z.go(1);
            dueLog("a PAIR of which one left", z, run(0, 0, 0, 1, 2, 3, 4, 5), run(0, 0, 0, 1, 2, 3));
            due("the other stays", theLine(z), "0 1 2 3 4");
            due("not READY", z.about(4, 1), NOT_READY);
            MergeLine w = heldRow(2, 1);
            w.go(1);
            w.hand(0, false);
            w.hand(0, true);
            w.go(1);
            dueLog("a HAND that was given again ahead of go()", w, run(0, 0, 0, 1), run(0, NONE, 0));
        });
        sentence("UNITS that do not FIT behind the latest STATE and those of the ROW ahead of them leave it", () -> {
            // 1 FITS only behind 2, the REVERT of 0, which fails in the ROW of both.
            MergeLine x = LineTest.restored();
            x.test(LONG, 0, 0, 1);
            int far = put(x, PLAIN, 4), alone = put(x, PLAIN, 5);
            x.size(8);
            for (int i : new int[] {2, far, 1, alone}) x.queue(i);
            x.go(1);
            due("all FIT in that order", log(x, 1), run(1, 0, 2, far, 1, alone));
            due("the first half", x.go(1), 1);
            due("RUN 2", log(x, 2), run(1, 0, 2, far));
            x.go(1);
            due("RUN 3", log(x, 3), run(1, 0, 2));
            x.go(1);
            due("2 is BACK", x.about(2, 1), FAILS);
            due("RUN 4", log(x, 4), run(1, NONE, far));
            x.go(1);
            due("1 left the ROW: what is left is RUN", log(x, 5), run(2, NONE, alone));
            due("1 stays in THE LINE", theLine(x), "1");
            x.go(1);
            due("and CLASHES in the next BATCH", x.about(1, 1), CLASH);
            // The same, but 2 leaves the ROW in which both are.
            MergeLine y = LineTest.restored();
            ban(y, 5);
            y.size(8);
            int held = put(y, HELD, 6);
            y.pair(2, held);
            y.hand(held, true);
            for (int i : new int[] {2, held, 1}) y.queue(i);
            waiting(y, PLAIN, 5);
            y.go(1);
            due("all in a ROW", work(y), "2 3 1 4");
            y.hand(held, false);
            y.go(1);
            due("1 leaves with 2", log(y, 2), run(1, 0, 4));
            due("all stay in THE LINE", theLine(y), "2 3 1 4");
        });
        sentence("leave it: nothing of them is done", () -> {
            MergeLine x = LineTest.restored();
            x.test(LONG, 0, 0, 1);
            x.size(8);
            // 3 FITS, as 1 does, only behind 2; its other EDIT would FIT anywhere.
            int more = x.change(PLAIN), fifth = put(x, PLAIN, 5);
            x.edit(more, 5, 0, 0, 1, 50);
            x.pair(1, more);
            for (int i : new int[] {2, more, 1}) x.queue(i);
            x.go(2);
            due("2 fails", log(x, 1) + "/" + log(x, 2), run(1, 0, 2, more, 1) + "/" + run(1, 0, 2));
            x.queue(fifth);
            x.go(1);
            due("2 is BACK, the PAIR leaves, and then goes BACK", stands(x), "45654");
            due("FILE 5", latest(x, 5), "105");
        });
        sentence("what is left is not DOOMED: it does not go BACK without a RUN", () -> {
            MergeLine x = heldRow(2, 1);
            x.go(2);
            due("0 is TAKEN, 1 is DOOMED", stands(x), "43");
            x.hand(1, false);
            due("no RUN", x.go(1), 0);
            due("1 has left", stands(x) + work(x), "42");
            x.hand(1, true);
            due("a ROW of its own", x.go(1), 1);
            dueLog("that is RUN", x, run(0, 0, 0, 1), run(0, NONE, 0), run(1, 0, 1));
        });
        sentence("If it is empty, it is gone", () -> {
            MergeLine x = heldRow(3, 0, 2);
            x.go(2);
            due("0 is DOOMED, then 1 and 2", work(x) + "/" + x.count(5), "0 1 2/2");
            x.hand(0, false);
            due("a ROW is looked at by go() alone", work(x) + "/" + x.count(5), "0 1 2/2");
            x.go(1);
            due("the next ROW is RUN", log(x, 2), run(0, 1, 1, 2));
            due("one ROW is gone", work(x) + "/" + x.count(5), "1 2/1");
            MergeLine y = heldRow(2, 1);
            y.go(1);
            y.leave(0);
            y.leave(1);
            due("both are GONE, and still in the ROW", work(y) + "/" + y.count(5) + "/" + stands(y), "0 1/1/77");
            due("no RUN", y.go(1), 0);
            due("none", work(y) + "/" + y.count(5), "/0");
        });
        sentence("Of the topmost ROW: those below are left as they are", () -> {
            MergeLine x = heldRow(4, 0, 3);
            x.go(3);
            due("0, then 1, then 2 and 3", work(x) + "/" + x.count(5), "0 1 2 3/3");
            x.hand(3, false);
            x.go(1);
            due("0 is BACK, 1 is TAKEN, 3 is in its ROW", stands(x) + "/" + work(x), "6433/2 3");
            x.hand(3, true);
            x.go(1);
            due("as if nothing was", log(x, 4), run(1, 1, 2, 3));
        });
    }

    static void doomed() {
        sentence("If it is DOOMED: of one UNIT: that goes BACK with reason FAILS, and the ROW is gone", () -> {
            MergeLine x = row(1, 0);
            due("a RUN", x.go(1), 1);
            due("DOOMED", stands(x) + "/" + work(x) + "/" + x.count(5), "3/0/1");
            due("no RUN", x.go(1), 0);
            due("BACK", stands(x) + "/" + work(x) + "/" + x.count(5), "6//0");
            due("out of THE LINE", theLine(x), "");
            due("no STATE", x.about(0, 2), NONE);
            due("the TEST", x.about(0, 3), 0);
            due("for good", x.queue(0), STATE);
            MergeLine y = empty();
            ban(y, 1);
            put(y, PLAIN, 0);
            put(y, PLAIN, 1);
            y.pair(0, 1);
            y.queue(0);
            y.queue(1);
            due("a PAIR is one UNIT", y.go(10), 1);
            due("both are BACK", stands(y) + y.about(0, 3) + y.about(1, 3), "6600");
        });
        sentence("of k: it becomes two, the first k / 2 (down) UNITS, on top, and the others", () -> {
            for (int k = 2; k <= 8; k++) {
                MergeLine x = row(k, 0);
                x.go(2);
                due("the first ones of " + k, x.log(1, 1), k / 2);
                due("the others lie below: ROWS", x.count(5), 2);
                due("all are there", x.count(4), k);
                due("the first is on top", x.inWork(0), 0);
            }
            MergeLine y = row(5, 0, 1, 2, 3, 4);
            y.go(10);
            dueLog("5", y, run(0, 0, 0, 1, 2, 3, 4), run(0, 0, 0, 1), run(0, 0, 0), run(0, 1, 1), run(0, 2, 2, 3, 4),
                run(0, 2, 2), run(0, 3, 3, 4), run(0, 3, 3), run(0, 4, 4));
            due("all are BACK", stands(y), "66666");
            MergeLine z = row(5, 4);
            z.pair(put(z, PLAIN, 5), put(z, PLAIN, 6));
            z.queue(5);
            z.queue(6);
            z.go(2);
            due("UNITS are halved, not CHANGES: 3 of 6", log(z, 1), run(0, NONE, 0, 1, 2));
        });
        sentence("the others are DOOMED as soon as the first ones are TAKEN by one RUN", () -> {
            MergeLine x = row(2, 1);
            x.go(2);
            due("0 is TAKEN", stands(x), "43");
            due("no RUN", x.go(1), 0);
            due("1 is BACK", stands(x), "46");
            dueLog("none more", x, run(0, 0, 0, 1), run(0, NONE, 0));
            MergeLine y = row(8, 5);
            y.go(10);
            dueLog("8", y, run(0, 0, 0, 1, 2, 3, 4, 5, 6, 7), run(0, NONE, 0, 1, 2, 3), run(1, 0, 4, 5), run(1, NONE, 4),
                run(2, NONE, 6, 7));
            due("5 is BACK", stands(y), "44444644");
            MergeLine z = row(4, 3);
            z.go(10);
            dueLog("4", z, run(0, 0, 0, 1, 2, 3), run(0, NONE, 0, 1), run(1, NONE, 2));
            due("3 is BACK", stands(z), "4446");
        });
        sentence("as soon as the first ones are TAKEN: not ahead of that", () -> {
            MergeLine x = row(4, 0);
            x.go(10);
            dueLog("the first ones fail: what others there are is RUN", x, run(0, 0, 0, 1, 2, 3), run(0, 0, 0, 1), run(0, 0, 0),
                run(0, NONE, 1), run(1, NONE, 2, 3));
            due("0 is BACK", stands(x), "6444");
        });
        sentence("by one RUN: not by the RUNS of its halves", () -> {
            // The first half fails by itself once; its halves and the others hold.
            MergeLine x = new MergeLine(seedFor("FFHHHH"));
            x.size(8);
            x.test(LONG, 0, 0, 24);
            x.odds(0, 500);
            waitingRow(x, 4);
            x.go(2);
            due("both fail by themselves", log(x, 0) + "/" + log(x, 1), run(0, 0, 0, 1, 2, 3) + "/" + run(0, 0, 0, 1));
            x.go(10);
            due("0 is TAKEN, 1 is DOOMED by that, 2 and 3 are not", stands(x), "4644");
            dueLog("RUNS", x, run(0, 0, 0, 1, 2, 3), run(0, 0, 0, 1), run(0, NONE, 0), run(1, NONE, 2, 3));
        });
        sentence("none having left them", () -> {
            MergeLine x = heldRow(4, 3);
            x.go(1);
            x.hand(0, false);
            x.hand(0, true);
            x.keep();
            x.go(1);
            x.go(10);
            due("none left: 3 needs no RUN of its own", x.count(7), 3);
            x.goBack();
            x.hand(1, false);
            x.go(1);
            dueLog("one left the whole", x, run(0, 0, 0, 1, 2, 3), run(0, 0, 0, 2, 3));
            x.go(10);
            due("2 is TAKEN with its STATE, 3 is BACK", stands(x), "4246");
            MergeLine y = heldRow(8, 7);
            // The first half fails, too, till 1 has left it; what is left of it is TAKEN by one RUN.
            ban(y, 1);
            y.go(2);
            y.hand(1, false);
            y.go(1);
            due("what is left of the first ones is TAKEN", log(y, 2), run(0, NONE, 0, 2, 3));
            y.go(1);
            due("the others are RUN, not halved", log(y, 3), run(1, 0, 4, 5, 6, 7));
        });
        sentence("none having left them: all have left", () -> {
            MergeLine x = heldRow(2, 0, 1);
            x.go(2);
            x.hand(0, false);
            due("the other one", x.go(1), 1);
            due("is RUN", log(x, 2), run(0, 1, 1));
        });
        sentence("the others are DOOMED: those that lie right below", () -> {
            // 0 .. 3 and 4 .. 7; of the first half 0, 1 hold, so 2, 3 are DOOMED; 4 .. 7 are not.
            MergeLine x = row(8, 3, 7);
            x.go(3);
            due("0 and 1 are TAKEN", stands(x), "44333333");
            x.go(1);
            due("2 is RUN, as 2 and 3 are DOOMED", log(x, 3), run(1, NONE, 2));
            x.go(1);
            due("3 goes BACK, 4 .. 7 are RUN", stands(x) + " " + log(x, 4), "44463333 " + run(2, 1, 4, 5, 6, 7));
        });
    }

    static void running() {
        sentence("all TESTS that any of them TOUCHES are tried", () -> {
            MergeLine x = empty();
            for (int file = 0; file < 8; file++) x.test(LONG, file, 0, 24);
            waiting(x, PLAIN, 6);
            waiting(x, PLAIN, 2);
            waiting(x, PLAIN, 6);
            x.go(1);
            due("those of FILES 2 and 6", x.count(9), 2);
            x.go(1);
            due("that of FILE 6", x.count(9), 2);
            MergeLine y = empty();
            y.test(LONG, 3, 1, 24);
            due("one that is not TOUCHED does not hold", y.holds(0, 0), 0);
            waiting(y, PLAIN, 6);
            y.go(1);
            due("it is not asked", log(y, 0) + " " + y.count(9), run(0, NONE, 0) + " 0");
            MergeLine z = empty();
            waiting(z, PLAIN, 6);
            z.go(1);
            due("none at all: it is TAKEN", stands(z) + z.count(9), "40");
        });
        sentence("by numbers, up to the first that does not HOLD", () -> {
            MergeLine x = empty();
            x.test(LONG, 1, 0, 24);
            x.test(LONG, 4, 0, 24);
            x.test(LONG, 0, 0, 24);
            ban(x, 1);
            ban(x, 0);
            x.test(LONG, 0, 0, 24);
            waitingRow(x, 2);
            x.go(1);
            due("TESTS 0, 2, 3", log(x, 0) + " " + x.count(9), run(0, 3, 0, 1) + " 3");
            x.go(1);
            due("TESTS 2, 4", log(x, 1) + " " + x.count(9), run(0, 4, 0) + " 5");
        });
        sentence("on the latest STATE with all its CHANGES, in order", () -> {
            MergeLine x = code();
            x.test(SUM, 0, 1000, 590);
            queued(x, PLAIN, 0, 0, 1, 1, 500);
            queued(x, PLAIN, 0, 3, 1, 1, 40);
            queued(x, PLAIN, 0, 4, 0, 1, 70);
            x.go(1);
            due("500 20 30 40, for 4 takes 40 no more", log(x, 0), run(0, NONE, 0, 1));
            due("FILE 0", values(x, 1, 0) + "/" + marks(x, 1, 0), "500 20 30 40/8 2 3 9");
            MergeLine y = LineTest.restored();
            y.test(LONG, 0, 3, 3);
            y.queue(2);
            y.queue(1);
            y.go(1);
            due("10 500 20", log(y, 1), run(1, NONE, 2, 1));
        });
        sentence("if all HOLD, it is TAKEN: that is the latest STATE then, its CHANGES are out of THE LINE", () -> {
            MergeLine x = row(3);
            int more = waiting(x, WIDE, 7);
            x.go(1);
            due("one STATE", x.count(6), 1);
            due("TAKEN with it", x.about(0, 2) + x.about(1, 2) + x.about(2, 2), 3);
            due("out of THE LINE", theLine(x), "" + more);
            due("out of WORK", work(x) + x.count(4) + x.count(5), "00");
            due("what they are", stands(x), "4441");
            due("the LINES", values(x, 1, 0) + " " + values(x, 1, 1) + " " + values(x, 1, 2), "100 101 102");
        });
        sentence("if not, the ROW is DOOMED", () -> {
            MergeLine x = row(2, 1);
            x.go(1);
            due("no STATE", x.count(6), 0);
            due("in THE LINE", theLine(x), "0 1");
            due("in a ROW", stands(x), "33");
            due("no TEST is told yet", x.about(0, 3) + x.about(1, 3), NONE + NONE);
        });
        sentence("Reason FAILS tells the TEST: of the latest RUN by which its ROW, or one of which it is a part, was found to be DOOMED", () -> {
            MergeLine x = row(4, 3, 1);
            x.go(10);
            dueLog("RUNS", x, run(0, 0, 0, 1, 2, 3), run(0, 1, 0, 1), run(0, NONE, 0), run(1, 0, 2, 3), run(1, NONE, 2));
            due("1: of the RUN of 0 and 1", x.about(1, 3), 1);
            due("3: of the RUN of 2 and 3", x.about(3, 3), 0);
            MergeLine y = row(2, 0, 1);
            y.go(10);
            due("0: its own RUN", y.about(0, 3), 0);
            due("1: its own RUN, not that of both", y.about(1, 3), 1);
            MergeLine z = row(8, 6, 7, 5);
            z.go(10);
            due("what they are", stands(z), "44444666");
            dueLog("RUNS", z, run(0, 0, 0, 1, 2, 3, 4, 5, 6, 7), run(0, NONE, 0, 1, 2, 3), run(1, 2, 4, 5), run(1, NONE, 4),
                run(2, 0, 6, 7), run(2, 0, 6), run(2, 1, 7));
            due("5: of the RUN of 4 and 5", z.about(5, 3), 2);
            due("6: its own", z.about(6, 3), 0);
            due("7: its own", z.about(7, 3), 1);
            MergeLine w = row(2, 1);
            w.go(2);
            w.test(LONG, 1, 2, 2);
            w.odds(0, 999);
            w.go(1);
            due("1: of the RUN of both, two RUNS ago", w.about(1, 3), 0);
            MergeLine v = row(4, 3);
            v.go(2);
            due("0 and 1 are TAKEN", stands(v), "4433");
            v.go(10);
            due("3: of the RUN of all four", v.about(3, 3) + " " + v.count(7), "0 3");
        });
        sentence("Reason FAILS: of what left a ROW the RUNS of a later one count", () -> {
            MergeLine x = heldRow(2, 1);
            x.go(2);
            x.hand(1, false);
            x.go(1);
            x.hand(1, true);
            x.test(LONG, 1, 0, 24);
            x.odds(1, 999);
            // Now TEST 0 holds no more than ahead, but is asked first all the same.
            x.go(10);
            due("1", stands(x) + x.about(1, 3), "460");
            MergeLine y = heldRow(3, 2);
            y.test(LONG, 1, 0, 0);
            y.go(1);
            due("all three, by TEST 0", log(y, 0), run(0, 0, 0, 1, 2));
            y.hand(2, false);
            y.go(10);
            due("1 by TEST 1", stands(y) + y.about(1, 3), "4621");
        });
    }

    static void theLog() {
        sentence("THE LOG: the STATE on which it was, how many CHANGES, and the answer: NONE, or the TEST that did not HOLD", () -> {
            MergeLine x = row(2, 1);
            due("none", log(x, 0), "-1 -1 -1 -1");
            x.go(10);
            due("RUN 0", log(x, 0), "0 2 " + (1 + 2 * 61) + " 0");
            due("RUN 1", log(x, 1), "0 1 1 -1");
            due("no RUN 2", log(x, 2), "-1 -1 -1 -1");
            waiting(x, PLAIN, 4);
            x.go(1);
            due("RUN 2, on STATE 1", log(x, 2), "1 1 3 -1");
        });
        sentence("the sum of (number of the CHANGE and 1) times 61 to the power of its place in the ROW, modulo 1000003", () -> {
            // 61 to the powers 4 to 7 modulo 1000003: 845802, 593769, 219801, 407822.
            MergeLine x = row(8);
            x.go(1);
            long sum = 1 + 2 * 61 + 3 * 3721 + 4 * 226981 + 5 * 845802L + 6 * 593769L + 7 * 219801L + 8 * 407822L;
            due("8 CHANGES", x.log(0, 2), (int) (sum % 1000003));
            MergeLine y = empty();
            for (int i = 0; i < 60; i++) changed(y, PLAIN, i % 8, 0, 0, 1, i);
            y.size(8);
            for (int i = 52; i < 60; i += 2) y.pair(i, i - 1);
            for (int i = 59; i >= 50; i--) y.queue(i);
            y.go(1);
            due("CHANGES of PAIRS have a place each", log(y, 0), run(0, NONE, 59, 58, 57, 56, 55, 54, 53));
            MergeLine z = empty();
            ban(z, 7);
            put(z, PLAIN, 0);
            waiting(z, PLAIN, 1);
            z.go(1);
            due("one CHANGE, at place 0", z.log(0, 2), 2);
        });
    }

    // ---- the promises

    static void going() {
        sentence("go: WORK is done, till n (1 .. 10) RUNS were done: how many RUNS. BAD", () -> {
            dueRange("n", 1, 10, n -> row(8, 0).go(n));
            for (int n = 1; n <= 10; n++) {
                MergeLine x = row(8, 0, 1, 2, 3, 4, 5, 6, 7);
                due("n " + n, x.go(n), n);
                due("RUNS", x.count(7), n);
                due("the rest", x.go(10) + x.count(7), n <= 5 ? 10 + n + 10 : 15 - n + 15);
            }
        });
        sentence("(the last one's answer with what it does to its ROW)", () -> {
            MergeLine x = row(3, 1);
            x.go(1);
            due("DOOMED, not halved yet", work(x) + "/" + x.count(5), "0 1 2/1");
            x.go(1);
            due("TAKEN", stands(x) + "/" + work(x) + "/" + x.count(5) + "/" + x.count(6), "433/1 2/1/1");
            x.go(1);
            due("1 is DOOMED, but not BACK yet", stands(x) + "/" + work(x) + "/" + x.count(5), "433/1 2/2");
            x.go(1);
            due("1 is BACK, 2 is TAKEN", stands(x) + "/" + x.count(5), "464/0");
        });
        sentence("till n RUNS were done: no BATCH is made behind the last one", () -> {
            MergeLine x = empty();
            int late = put(x, URGENT, 0);
            waiting(x, PLAIN, 0);
            x.go(1);
            x.queue(late);
            waiting(x, PLAIN, 1);
            waiting(x, PLAIN, 2);
            x.size(1);
            due("the URGENT one goes BACK, one is TAKEN", x.go(1) + "/" + stands(x), "1/5441");
            due("no ROW is there", x.count(5) + x.count(4), 0);
            MergeLine y = row(1);
            int clash = waiting(y, PLAIN, 0);
            y.size(1);
            y.go(1);
            due("the next one is not looked at", y.about(clash, 1), READY);
        });
        sentence("or nothing is to be done", () -> {
            due("nothing at all", empty().go(10), 0);
            MergeLine x = row(2, 0, 1);
            due("three RUNS", x.go(10), 3);
            due("WORK is done to its end", stands(x) + x.count(5), "660");
            due("nothing more", x.go(10), 0);
            MergeLine y = heldRow(2);
            y.hand(0, false);
            y.hand(1, false);
            due("none is READY", y.go(10), 0);
            due("they wait", theLine(y), "0 1");
        });
        sentence("go: FULL: more than 600 RUNS ever might be then", () -> {
            // So many RUNS need more calls than the document looks at; the bound must stand all the same.
            MergeLine x = heldRow(1, 0);
            for (int run = 0; run < 600; run++) {
                if (run >= 590) {
                    x.keep();
                    due("up to 600 at " + run, x.go(600 - run), 1);
                    x.goBack();
                    due("up to 601 at " + run, run == 590 ? FULL : x.go(601 - run), FULL);
                }
                due("RUN " + run, x.go(1), 1);
                x.hand(0, false);
                due("leaves its ROW", run < 599 ? x.go(1) : 0, 0);
                x.hand(0, true);
            }
            due("RUNS", x.count(7), 600);
            due("THE LOG is as it was", x.check(), NONE);
            x.alter(599, 3, 1);
            due("its last RUN is altered", x.check(), 599);
            x.alter(599, 3, 1);
            String all = everything(x);
            due("one more", x.go(1), FULL);
            due("that changes nothing", everything(x), all);
            due("BAD ahead of FULL", x.go(0) + x.go(11), BAD + BAD);
            due("the last RUN", log(x, 599), run(0, 0, 0));
            x.leave(0);
            due("even if nothing is to be done", x.go(1), FULL);
        });
    }

    static void telling() {
        sentence("about: 0 its KIND", () -> {
            MergeLine x = empty();
            for (int kind = 0; kind < 4; kind++) due("KIND", x.about(put(x, kind, kind), 0), kind);
            x.queue(0);
            x.go(1);
            due("TAKEN", x.about(0, 0), PLAIN);
            due("a REVERT", x.about(x.revert(0), 0), REVERT);
        });
        sentence("about: 1 what it is: 0 being made, 1 in THE LINE and READY, 2 in THE LINE, not READY", () -> {
            MergeLine x = empty();
            int a = x.change(HELD);
            due("being made, without EDITS", x.about(a, 1), MAKING);
            x.edit(a, 0, 0, 0, 1, 5);
            x.hand(a, true);
            due("being made, with a HAND", x.about(a, 1), MAKING);
            x.queue(a);
            due("READY", x.about(a, 1), READY);
            x.hand(a, false);
            due("not READY", x.about(a, 1), NOT_READY);
            int late = put(x, PLAIN, 3);
            taken(x, 3, 0, 0, 1, 5);
            x.queue(late);
            due("READY, though it does not FIT", x.about(late, 1), READY);
        });
        sentence("about: 3 in a ROW of WORK (READY or not)", () -> {
            MergeLine x = heldRow(3, 0);
            x.go(2);
            due("of both ROWS", stands(x), "333");
            x.hand(0, false);
            x.hand(2, false);
            due("not READY", stands(x), "333");
        });
        sentence("about: 4 TAKEN, 5 BACK with CLASH, 6 BACK with FAILS, 7 GONE", () -> {
            MergeLine x = empty();
            ban(x, 2);
            int clash = put(x, PLAIN, 0);
            waitingRow(x, 3);
            x.leave(waiting(x, PLAIN, 4));
            x.go(10);
            x.queue(clash);
            x.go(10);
            due("what they are", stands(x), "54467");
            due("STATE of those", x.about(0, 2) + "," + x.about(1, 2) + "," + x.about(3, 2) + "," + x.about(4, 2), "-1,1,-1,-1");
            due("TEST of those", x.about(0, 3) + "," + x.about(1, 3) + "," + x.about(3, 3) + "," + x.about(4, 3), "-1,-1,0,-1");
        });
        sentence("about: 2 the STATE that was TAKEN with it (NONE), 3 the TEST of FAILS (NONE)", () -> {
            MergeLine x = row(3, 2);
            x.size(1);
            due("ahead", x.about(0, 2) + x.about(0, 3), NONE + NONE);
            x.go(1);
            x.go(1);
            due("STATES", x.about(0, 2) + "," + x.about(1, 2) + "," + x.about(2, 2), "1,2,-1");
            x.go(1);
            due("in a DOOMED ROW", x.about(2, 2) + x.about(2, 3), NONE + NONE);
            x.go(1);
            due("TESTS", x.about(0, 3) + "," + x.about(1, 3) + "," + x.about(2, 3), "-1,-1,0");
        });
        sentence("about: 4 how many EDITS, 5 with which it is PAIRED (NONE). BAD", () -> {
            MergeLine x = code();
            int a = x.change(PLAIN), b = put(x, PLAIN, 5);
            due("none", x.about(a, 4) + "," + x.about(a, 5), "0,-1");
            x.pair(a, b);
            due("of each the other", x.about(a, 5) * 10 + x.about(b, 5), 10);
            x.edit(a, 0, 0, 0, 1, 5);
            x.edit(a, 1, 0, 0, 1, 5);
            due("two", x.about(a, 4), 2);
            x.queue(b);
            x.leave(b);
            due("still, when one is GONE", x.about(a, 5), b);
            int c = x.revert(taken(x, 2, 0, 0, 1, 5));
            due("of a REVERT", x.about(c, 4) + "," + x.about(c, 5), "1,-1");
            dueRange("what", 0, 5, what -> x.about(a, what) == BAD ? BAD : 0);
            dueRange("CHANGE", 0, 3, i -> x.about(i, 0));
        });
        sentence("inWork: The CHANGE at place k of all those that are in ROWS of WORK, from the topmost ROW on; NONE", () -> {
            MergeLine x = row(3, 0);
            due("nothing there", x.inWork(0), NONE);
            int a = put(x, PLAIN, 6), b = put(x, PLAIN, 7);
            x.pair(a, b);
            x.queue(b);
            x.queue(a);
            x.go(2);
            due("two ROWS", work(x) + "/" + x.count(5), "0 1 2 4 3/2");
            for (int k : new int[] {-1, 5, 8, LEAST, MOST}) due("place " + k, x.inWork(k), NONE);
            x.go(1);
            due("three ROWS", work(x) + "/" + x.count(5), "0 1 2 4 3/3");
            x.go(1);
            due("0 is BACK, 1 is TAKEN", work(x) + "/" + x.count(5), "2 4 3/1");
            due("place 2", x.inWork(2), 3);
            due("place 3", x.inWork(3), NONE);
        });
    }

    public static void main(String[] args) {
        topmost();
        doomed();
        running();
        theLog();
        going();
        telling();
        end();
    }
}
