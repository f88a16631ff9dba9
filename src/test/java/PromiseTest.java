/** For each promise the answers that the document tells: ordinary numbers, edges, and wrong ones. */
public final class PromiseTest extends Dues {
    static int wrong = 0;

    static void due(int promise, String what, int got, int want) {
        if (got == want) return;
        wrong++;
        System.out.println("promise " + promise + ", " + what + ": answered " + got + ", due is " + want);
    }

    /** n CHANGES in THE LINE, each with a FILE of its own, all TOUCHING no TEST. */
    static void queueRow(MergeLine x, int n) {
        for (int i = 0; i < n; i++) queued(x, 0, i, 0, 0, 1, 100 + i);
    }

    static void dueText(int promise, String what, String got, String want) {
        due(promise, what + " (" + got + " for " + want + ")", got.equals(want) ? 1 : 0, 1);
    }

    static void promise1() {
        MergeLine x = new MergeLine(5);
        for (int what = 0; what < 10; what++) due(1, "count(" + what + ")", x.count(what), 0);
        for (int file = 0; file < 8; file++) due(1, "at of FILE " + file, x.at(0, file, 0, 0), NONE);
        due(1, "size", x.size(4), 4);
        // With a SEED of 0, z is 12345 first, of which (z >>> 8) modulo 1000 is 48.
        due(1, "seed 0, odds 48", shakyOnce(0, 48), 4);
        due(1, "seed 0, odds 49", shakyOnce(0, 49), 6);
        // With -1 it is 3191464396 without a sign, and 12466657 modulo 1000 is 657.
        due(1, "seed -1, odds 657", shakyOnce(-1, 657), 4);
        due(1, "seed -1, odds 658", shakyOnce(-1, 658), 6);
    }

    static int shakyOnce(int seed, int odds) {
        MergeLine x = new MergeLine(seed);
        x.test(3, 0, 0, 24);
        x.odds(0, odds);
        queued(x, 0, 0, 0, 0, 1, 1);
        x.go(1);
        x.go(1);
        return x.about(0, 1);
    }

    static void promise2() {
        MergeLine x = new MergeLine(1);
        due(2, "first", x.line(0, 0), 1);
        due(2, "second", x.line(7, 9999), 2);
        due(2, "third", x.line(0, 5), 3);
        due(2, "MARK at the end", x.at(0, 0, 1, 1), 3);
        for (int i : WRONG) {
            due(2, "FILE", x.line(i, 0), BAD);
            due(2, "VALUE", x.line(0, i), BAD);
        }
        due(2, "FILE 8", x.line(8, 0), BAD);
        due(2, "VALUE 10000", x.line(0, 10000), BAD);
        for (int i = 2; i < 24; i++) due(2, "LINE " + i, x.line(0, 1), i + 2);
        due(2, "LINE 25", x.line(0, 1), FULL);
        due(2, "another FILE", x.line(1, 1), 26);
        x.change(0);
        due(2, "with a CHANGE", x.line(1, 1), STATE);
        due(2, "with a CHANGE, full", x.line(0, 1), STATE);
        due(2, "with a CHANGE, bad", x.line(0, -1), BAD);
        due(2, "MARKS", x.count(8), 26);
        due(2, "LINES", x.count(0), 26);
    }

    static void promise3() {
        MergeLine x = new MergeLine(1);
        int[][] bad = {{-1, 0, 1, 0}, {5, 0, 1, 0}, {0, 8, 1, 0}, {0, -1, 1, 0}, {0, 0, 0, 0}, {0, 0, 1001, 0},
            {0, 0, 5, 5}, {0, 0, 5, -1}, {1, 32, 0, 0}, {1, -1, 0, 0}, {1, 0, -1, 0}, {1, 0, 10, 0}, {2, 8, 0, 0},
            {2, -1, 0, 0}, {3, 8, 0, 0}, {3, 0, 25, 0}, {3, 0, -1, 0}, {3, 0, 0, 25}, {3, 0, 0, -1}, {4, 8, 0, 0}};
        for (int[] b : bad) due(3, java.util.Arrays.toString(b), x.test(b[0], b[1], b[2], b[3]), BAD);
        int[][] good = {{0, 7, 1000, 999}, {0, 0, 1, 0}, {1, 31, 9, -7}, {1, 0, 0, 99}, {2, 7, -1, -1}, {3, 7, 24, 24},
            {3, 0, 5, 2}, {4, 7, 5000, -5}};
        for (int i = 0; i < good.length; i++) {
            due(3, java.util.Arrays.toString(good[i]), x.test(good[i][0], good[i][1], good[i][2], good[i][3]), i);
        }
        x.change(0);
        for (int i = good.length; i < 24; i++) due(3, "TEST " + i, x.test(4, 0, 0, 0), i);
        due(3, "TEST 24", x.test(4, 0, 0, 0), FULL);
        due(3, "bad ahead of full", x.test(4, 8, 0, 0), BAD);
        due(3, "TESTS", x.count(1), 24);
    }

    static void promise4() {
        MergeLine x = new MergeLine(0);
        due(4, "no TEST", x.odds(0, 5), BAD);
        x.test(3, 0, 0, 24);
        due(4, "least", x.odds(0, 0), 1);
        due(4, "most", x.odds(0, 999), 1);
        due(4, "too many", x.odds(0, 1000), BAD);
        for (int i : WRONG) {
            due(4, "TEST", x.odds(i, 0), BAD);
            due(4, "q", x.odds(0, i), BAD);
        }
        due(4, "not there yet", x.odds(1, 0), BAD);
        x.odds(0, 0);
        queued(x, 0, 0, 0, 0, 1, 1);
        due(4, "not SHAKY any more", x.go(1), 1);
        due(4, "and TAKEN", x.about(0, 1), 4);
        due(4, "tried once", x.count(9), 1);
    }

    static void promise5() {
        MergeLine x = new MergeLine(0);
        int[][] bad = {{0, 0}, {0, 1}, {1, 0}, {1, 2}, {10, 1}, {9, 10}, {-1, -1}, {Integer.MAX_VALUE, 1}, {5, -1}};
        for (int[] b : bad) due(5, b[0] + ", " + b[1], x.tries(b[0], b[1]), BAD);
        due(5, "9, 9", x.tries(9, 9), 1);
        due(5, "9, 1", x.tries(9, 1), 1);
        due(5, "1, 1", x.tries(1, 1), 1);
        // A TEST that is SHAKY and never holds: it is tried till h cannot hold any more.
        due(5, "tries of 5, 3", triesOf(5, 3, 1), 3);
        due(5, "tries of 9, 1", triesOf(9, 1, 1), 9);
        due(5, "tries of 4, 4", triesOf(4, 4, 1), 1);
        // One that holds but for odds of 1 in 1000: till h held.
        due(5, "held tries of 5, 3", triesOf(5, 3, 0), 3);
        due(5, "held tries of 9, 1", triesOf(9, 1, 0), 1);
    }

    static int triesOf(int m, int h, int least) {
        MergeLine x = new MergeLine(0);
        x.test(3, 1, least, 24);
        x.odds(0, 1);
        x.tries(m, h);
        x.line(1, 5);
        queued(x, 0, 1, 0, 1, 1 - least, 1);
        x.go(1);
        due(5, "answer of " + m + ", " + h, x.log(0, 3), least == 1 ? 0 : NONE);
        return x.count(9);
    }

    static void promise6() {
        MergeLine x = code();
        int[][] tests = {{0, 0, 7, 2, 1}, {0, 0, 7, 3, 0}, {0, 5, 9, 0, 1}, {1, 1, 1, 0, 1}, {1, 1, 2, 0, 0}, {1, 2, 1, 0, 0},
            {1, 2, 0, 0, 1}, {2, 1, 0, 0, 1}, {2, 0, 0, 0, 1}, {3, 0, 4, 4, 1}, {3, 0, 5, 24, 0}, {3, 0, 0, 3, 0},
            {3, 0, 24, 0, 0}, {3, 7, 0, 0, 1}, {4, 0, 0, 0, 1}, {4, 1, 0, 0, 1}, {4, 7, 0, 0, 1}};
        for (int i = 0; i < tests.length; i++) {
            x.test(tests[i][0], tests[i][1], tests[i][2], tests[i][3]);
            due(6, "TEST " + i, x.holds(i, 0), tests[i][4]);
        }
        x.odds(0, 999);
        due(6, "as if not SHAKY", x.holds(0, 0), 1);
        due(6, "no try", x.count(9), 0);
        for (int i : WRONG) {
            due(6, "TEST", x.holds(i, 0), BAD);
            due(6, "STATE", x.holds(0, i), BAD);
        }
        due(6, "TEST 17", x.holds(17, 0), BAD);
        due(6, "STATE 1", x.holds(0, 1), BAD);
        MergeLine y = code();
        queued(y, 0, 1, 0, 1, 1, 1002);
        y.go(1);
        y.test(2, 1, 0, 0);
        y.test(4, 1, 0, 0);
        y.test(1, 31, 1, 0);
        due(6, "known on STATE 0", y.holds(0, 0), 1);
        due(6, "known on STATE 1", y.holds(0, 1), 0);
        due(6, "rising on STATE 1", y.holds(1, 1), 1);
        due(6, "name 31", y.holds(2, 1), 0);
        MergeLine z = new MergeLine(0);
        z.line(0, 2031);
        z.line(3, 1031);
        z.line(1, 2032);
        z.line(1, 1999);
        z.line(2, 2000);
        z.line(3, 1032);
        z.test(2, 0, 0, 0);
        z.test(2, 1, 0, 0);
        z.test(2, 2, 0, 0);
        z.test(1, 31, 1, 0);
        z.test(4, 1, 0, 0);
        z.test(4, 3, 0, 0);
        due(6, "31 is asked for and given in another FILE", z.holds(0, 0), 1);
        due(6, "2032 and 1999 ask for nothing", z.holds(1, 0), 1);
        due(6, "0 is asked for, 1032 gives nothing", z.holds(2, 0), 0);
        due(6, "31 is given", z.holds(3, 0), 1);
        due(6, "falls", z.holds(4, 0), 0);
        due(6, "rises", z.holds(5, 0), 1);
    }

    static void promise7() {
        MergeLine x = new MergeLine(1);
        due(7, "KIND 4", x.change(4), BAD);
        for (int i : WRONG) due(7, "KIND", x.change(i), BAD);
        for (int i = 0; i < 60; i++) {
            due(7, "CHANGE", x.change(i % 4), i);
            due(7, "its KIND", x.about(i, 0), i % 4);
        }
        due(7, "the 61st", x.change(0), FULL);
        due(7, "bad ahead of full", x.change(-1), BAD);
        due(7, "CHANGES", x.count(2), 60);
    }

    static void promise8() {
        MergeLine x = code();
        int c = x.change(0);
        int[][] bad = {{1, 0, 0, 0, 1, 0}, {-1, 0, 0, 0, 1, 0}, {0, 8, 0, 0, 1, 0}, {0, -1, 0, 0, 1, 0}, {0, 0, -1, 0, 1, 0},
            {0, 0, 5, 0, 1, 0}, {0, 0, 4, 1, 0, 0}, {0, 0, 0, 5, 0, 0}, {0, 0, 0, 7, 0, 0}, {0, 0, 0, -1, 1, 0},
            {0, 0, 0, 0, 5, 0}, {0, 0, 0, 1, -1, 0}, {0, 0, 0, 0, 0, 0}, {0, 0, 0, 0, 1, -1}, {0, 0, 0, 0, 1, 9999},
            {0, 0, 0, 0, 4, 9996}, {0, 0, 0, 1, 0, 10000}, {0, 0, 0, 1, 0, -1}, {0, 0, Integer.MAX_VALUE, 6, 1, 0},
            {0, 0, 0, 0, 4, Integer.MAX_VALUE}, {0, 0, Integer.MIN_VALUE, 6, 1, 0}};
        for (int[] b : bad) due(8, java.util.Arrays.toString(b), x.edit(b[0], b[1], b[2], b[3], b[4], b[5]), BAD);
        due(8, "nothing was made", x.count(8), 7);
        due(8, "at the end", x.edit(c, 0, 4, 0, 4, 9995), 1);
        due(8, "same FILE", x.edit(c, 0, 0, 1, 0, 0), STATE);
        due(8, "bad ahead of STATE", x.edit(c, 0, 0, 0, 0, 0), BAD);
        due(8, "in an empty FILE", x.edit(c, 3, 0, 0, 1, 5), 2);
        due(8, "takes alone", x.edit(c, 1, 0, 2, 0, 9999), 3);
        due(8, "fourth", x.edit(c, 2, 0, 1, 1, 5), 4);
        due(8, "fifth", x.edit(c, 4, 0, 0, 1, 5), FULL);
        due(8, "MARKS", x.count(8), 13);
        x.queue(c);
        due(8, "in THE LINE", x.edit(c, 4, 0, 0, 1, 5), STATE);
        int stale = x.change(0);
        x.go(1);
        dueText(8, "FILE 0", values(x, 1, 0), "10 20 30 40 9995 9996 9997 9998");
        dueText(8, "FILE 1", values(x, 1, 1), "");
        due(8, "MARK of the first that was put", x.at(1, 0, 4, 1), 8);
        due(8, "was in THE LINE", x.edit(c, 4, 0, 0, 1, 5), STATE);
        due(8, "another STATE", x.edit(stale, 4, 0, 0, 1, 5), STATE);
        due(8, "BAD by the latest STATE", x.edit(stale, 1, 0, 1, 1, 5), BAD);
        int back = x.revert(c);
        due(8, "a REVERT", x.edit(back, 5, 0, 0, 1, 5), STATE);
        MergeLine y = new MergeLine(1);
        for (int i = 0; i < 24; i++) y.line(0, i);
        int d = y.change(0);
        due(8, "25 LINES", y.edit(d, 0, 0, 2, 3, 5), FULL);
        due(8, "24 LINES", y.edit(d, 0, 20, 3, 3, 5), 1);
    }

    /** As many LINES and EDITS as there may be: the last MARK is 1152. */
    static void mostMarks() {
        MergeLine x = new MergeLine(1);
        for (int i = 0; i < 192; i++) due(2, "LINE", x.line(i % 8, i), i + 1);
        for (int i = 0; i < 60; i++) x.change(0);
        for (int i = 0; i < 240; i++) due(8, "EDIT", x.edit(i % 60, i / 60 + 4, i % 20, 4, 4, 9000 + i), i / 60 + 1);
        due(8, "MARKS", x.count(8), 1152);
        x.queue(59);
        x.go(1);
        due(8, "the last MARK", x.at(1, 7, 22, 1), 1152);
        due(8, "its VALUE", x.at(1, 7, 22, 0), 9242);
        due(8, "a full FILE stays full", x.at(1, 7, 23, 1), 192);
    }

    static void promise9() {
        MergeLine x = code();
        int c = changed(x, 0, 0, 1, 2, 1, 500);
        x.edit(c, 1, 2, 0, 1, 600);
        due(9, "not TAKEN", x.revert(c), STATE);
        due(9, "no such", x.revert(1), BAD);
        due(9, "wrong", x.revert(-1), BAD);
        x.queue(c);
        due(9, "in THE LINE", x.revert(c), STATE);
        x.go(1);
        int back = x.revert(c);
        due(9, "a REVERT", back, 1);
        due(9, "its KIND", x.about(back, 0), 4);
        due(9, "its EDITS", x.about(back, 4), 2);
        due(9, "no MARKS more", x.count(8), 9);
        due(9, "queued", x.queue(back), 0);
        x.go(1);
        dueText(9, "FILE 0", values(x, 2, 0), "10 20 30 40");
        dueText(9, "FILE 1", values(x, 2, 1), "1001 2001");
        due(9, "MARK is back", x.at(2, 0, 1, 1), 2);
        due(9, "it does not FIT any more", x.revert(c), STATE);
        int again = x.revert(back);
        due(9, "of a REVERT", again, 2);
        x.queue(again);
        x.go(1);
        dueText(9, "FILE 0 again", values(x, 3, 0), "10 500 40");
        due(9, "MARK of the first CHANGE", x.at(3, 0, 1, 1), 8);
        while (x.change(0) != FULL) { }
        due(9, "FULL", x.revert(c), FULL);
        due(9, "STATE ahead of FULL", x.revert(back), STATE);
        due(9, "a full one changes nothing", x.count(2), 60);
        MergeLine y = new MergeLine(1);
        for (int i = 0; i < 24; i++) y.line(0, i);
        queued(y, 0, 0, 0, 6, 0, 0);
        y.go(1);
        queued(y, 0, 0, 18, 0, 1, 5);
        y.go(1);
        due(9, "more than 24 LINES then", y.revert(0), STATE);
        due(9, "other side", y.revert(1), 2);
    }

    static void promise10() {
        MergeLine x = code();
        for (int i = 0; i < 4; i++) changed(x, 0, 0, i, 1, 1, 5);
        due(10, "with itself", x.pair(0, 0), BAD);
        due(10, "no such", x.pair(0, 4), BAD);
        due(10, "no such", x.pair(4, 0), BAD);
        due(10, "wrong", x.pair(-1, 0), BAD);
        due(10, "pair", x.pair(0, 3), 1);
        due(10, "one", x.about(0, 5), 3);
        due(10, "the other", x.about(3, 5), 0);
        due(10, "is PAIRED", x.pair(1, 3), STATE);
        due(10, "is PAIRED", x.pair(0, 1), STATE);
        due(10, "is PAIRED", x.pair(3, 0), STATE);
        x.queue(1);
        due(10, "in THE LINE", x.pair(1, 2), STATE);
        due(10, "in THE LINE", x.pair(2, 1), STATE);
        x.leave(1);
        due(10, "was in THE LINE", x.pair(2, 1), STATE);
        due(10, "BAD ahead of STATE", x.pair(1, 1), BAD);
        pairsInTheLine();
    }

    static void pairsInTheLine() {
        MergeLine x = code();
        changed(x, 0, 0, 0, 1, 1, 5);
        changed(x, 0, 1, 0, 1, 1, 6);
        changed(x, 0, 2, 0, 1, 1, 7);
        x.pair(0, 2);
        x.queue(2);
        x.queue(1);
        due(10, "the other is not in THE LINE", x.about(2, 1), 2);
        x.queue(0);
        due(10, "READY", x.about(2, 1), 1);
        x.size(1);
        x.go(1);
        dueText(10, "at the place of the first, in THE LINE's order", log(x, 0), "0 2 64 -1");
        due(10, "one STATE", x.about(0, 2), 1);
        due(10, "one STATE", x.about(2, 2), 1);
        MergeLine y = code();
        y.test(3, 0, 4, 4);
        changed(y, 0, 0, 0, 1, 0, 0);
        changed(y, 0, 1, 0, 1, 1, 6);
        y.pair(0, 1);
        y.queue(0);
        y.queue(1);
        y.go(10);
        due(10, "both go BACK", y.about(0, 1) * 10 + y.about(1, 1), 66);
        due(10, "both with the TEST", y.about(0, 3) * 10 + y.about(1, 3), 0);
        MergeLine z = code();
        changed(z, 0, 0, 0, 1, 1, 6);
        changed(z, 0, 0, 0, 1, 1, 7);
        z.pair(0, 1);
        z.queue(0);
        z.queue(1);
        due(10, "each FITS alone", z.fits(0) + z.fits(1), 2);
        due(10, "they clash with one another", z.go(10), 0);
        due(10, "both go BACK", z.about(0, 1) * 10 + z.about(1, 1), 55);
    }

    static void promise11() {
        MergeLine x = code();
        due(11, "no such", x.fits(0), BAD);
        due(11, "wrong", x.fits(-1), BAD);
        int a = changed(x, 0, 0, 1, 1, 1, 5);
        int ahead = changed(x, 0, 0, 0, 1, 0, 0);
        int behind = changed(x, 0, 0, 2, 0, 1, 0);
        int far = changed(x, 0, 0, 3, 1, 1, 0);
        int end = changed(x, 0, 0, 4, 0, 1, 0);
        int other = changed(x, 0, 1, 0, 0, 1, 0);
        int none = x.change(0);
        for (int i = 0; i <= none; i++) due(11, "on its own STATE", x.fits(i), 1);
        x.queue(a);
        x.go(1);
        due(11, "that was TAKEN", x.fits(a), 0);
        due(11, "the LINE behind is another", x.fits(ahead), 0);
        due(11, "the LINE ahead is another", x.fits(behind), 0);
        due(11, "far from it", x.fits(far), 1);
        due(11, "at the end", x.fits(end), 1);
        due(11, "of another FILE", x.fits(other), 1);
        due(11, "without EDITS", x.fits(none), 1);
        int last = queued(x, 0, 0, 4, 0, 2, 8);
        x.go(1);
        due(11, "last was TAKEN", x.about(last, 1), 4);
        due(11, "not the end any more", x.fits(end), 0);
        MergeLine y = new MergeLine(1);
        for (int i = 0; i < 23; i++) y.line(0, i);
        int one = changed(y, 0, 0, 0, 0, 1, 5);
        int two = changed(y, 0, 0, 23, 0, 1, 5);
        y.queue(one);
        y.go(1);
        due(11, "24 LINES and one more", y.fits(two), 0);
    }

    static void promise12() {
        MergeLine x = code();
        x.line(1, 5);
        x.test(0, 0, 5, 0);
        x.test(1, 1, 1, 0);
        x.test(2, 2, 0, 0);
        x.test(3, 0, 0, 24);
        x.test(4, 0, 0, 0);
        x.test(1, 0, 1, 0);
        dueTouched(x, changed(x, 0, 0, 0, 1, 1, 5), "100110");
        dueTouched(x, changed(x, 0, 1, 0, 1, 0, 5), "011000");
        dueTouched(x, changed(x, 0, 1, 1, 1, 0, 5), "000000");
        dueTouched(x, changed(x, 0, 2, 0, 1, 0, 5), "001000");
        dueTouched(x, changed(x, 0, 3, 0, 0, 2, 1000), "011001");
        dueTouched(x, changed(x, 0, 3, 0, 0, 1, 1031), "001000");
        dueTouched(x, changed(x, 0, 3, 0, 0, 1, 1032), "000000");
        dueTouched(x, changed(x, 0, 3, 0, 0, 1, 999), "000000");
        int wide = changed(x, 0, 3, 0, 0, 1, 999);
        x.edit(wide, 0, 0, 1, 1, 5);
        dueTouched(x, wide, "100110");
        dueTouched(x, x.change(0), "000000");
        for (int i : WRONG) {
            due(12, "CHANGE", x.touches(i, 0), BAD);
            due(12, "TEST", x.touches(0, i), BAD);
        }
        due(12, "CHANGE", x.touches(x.count(2), 0), BAD);
        due(12, "TEST", x.touches(0, 6), BAD);
    }

    static void dueTouched(MergeLine x, int change, String want) {
        StringBuilder got = new StringBuilder();
        for (int i = 0; i < x.count(1); i++) got.append(x.touches(change, i));
        dueText(12, "CHANGE " + change, got.toString(), want);
    }

    static void promise13() {
        MergeLine x = code();
        due(13, "no such", x.queue(0), BAD);
        due(13, "wrong", x.queue(-1), BAD);
        int none = x.change(0);
        due(13, "no EDITS", x.queue(none), STATE);
        int a = changed(x, 0, 0, 0, 1, 1, 5);
        int b = changed(x, 0, 1, 0, 1, 1, 5);
        due(13, "first", x.queue(b), 0);
        due(13, "second", x.queue(a), 1);
        due(13, "is there", x.queue(b), STATE);
        x.leave(b);
        due(13, "was there", x.queue(b), STATE);
        x.go(5);
        due(13, "was TAKEN", x.queue(a), STATE);
        due(13, "THE LINE", x.count(3), 0);
    }

    static void promise14() {
        MergeLine x = code();
        due(14, "no such", x.leave(0), BAD);
        due(14, "wrong", x.leave(-1), BAD);
        for (int i = 0; i < 4; i++) changed(x, 0, i, 0, 0, 1, 5);
        due(14, "never there", x.leave(0), STATE);
        for (int i = 0; i < 4; i++) x.queue(i);
        due(14, "leaves", x.leave(1), 1);
        due(14, "is GONE", x.about(1, 1), 7);
        due(14, "once", x.leave(1), STATE);
        dueText(14, "THE LINE", theLine(x), "0 2 3");
        x.go(1);
        due(14, "TAKEN", x.leave(0), STATE);
        leavesWork();
    }

    static void leavesWork() {
        MergeLine x = code();
        x.test(3, 0, 0, 4);
        queueRow(x, 4);
        x.go(1);
        dueText(14, "ROW", work(x), "0 1 2 3");
        due(14, "leaves THE LINE", x.leave(0), 1);
        due(14, "GONE at once", x.about(0, 1), 7);
        x.go(1);
        dueText(14, "what is left is RUN, not halved", log(x, 1), log(x, 1).replaceAll("^0 \\d+", "0 3"));
        due(14, "and TAKEN", x.about(3, 1), 4);
    }

    static void promise15() {
        MergeLine x = code();
        due(15, "no such", x.hand(0, true), BAD);
        due(15, "wrong", x.hand(-1, false), BAD);
        for (int kind = 0; kind < 4; kind++) changed(x, kind, kind, 0, 0, 1, 5);
        for (int kind = 0; kind < 3; kind++) due(15, "KIND " + kind, x.hand(kind, true), STATE);
        due(15, "given", x.hand(3, true), 0);
        due(15, "given again", x.hand(3, true), 1);
        due(15, "taken", x.hand(3, false), 1);
        due(15, "taken again", x.hand(3, false), 0);
        x.queue(3);
        due(15, "not READY", x.about(3, 1), 2);
        due(15, "nothing to do", x.go(1), 0);
        x.hand(3, true);
        due(15, "READY", x.about(3, 1), 1);
        due(15, "to do", x.go(1), 1);
        due(15, "also later", x.hand(3, false), 1);
        int back = x.revert(3);
        due(15, "a REVERT is not HELD", x.hand(back, true), STATE);
    }

    static void promise16() {
        MergeLine x = code();
        due(16, "at first", x.size(8), 4);
        due(16, "then", x.size(1), 8);
        for (int i : new int[] {0, 9, -1, Integer.MIN_VALUE, Integer.MAX_VALUE}) due(16, "n", x.size(i), BAD);
        for (int n = 1; n <= 8; n++) {
            MergeLine y = new MergeLine(0);
            y.size(n);
            queueRow(y, 8);
            y.go(1);
            due(16, "UNITS of a BATCH", y.log(0, 1), n);
        }
        MergeLine z = new MergeLine(0);
        for (int i = 0; i < 4; i++) changed(z, 0, i, 0, 0, 1, 5);
        z.pair(0, 2);
        z.size(2);
        for (int i = 0; i < 4; i++) z.queue(i);
        z.go(1);
        dueText(16, "a PAIR is one UNIT", log(z, 0), "0 3 " + (1 + 3 * 61 + 2 * 3721) + " -1");
    }

    static void promise17() {
        MergeLine x = code();
        for (int i : new int[] {0, 11, -1, Integer.MIN_VALUE, Integer.MAX_VALUE}) due(17, "n", x.go(i), BAD);
        due(17, "nothing to do", x.go(10), 0);
        halves();
        halvesThatHold();
        passedBy();
        alone();
        othersThatLeft();
        fullLog();
    }

    /** The third of four fails: what is found, and what of it needs no RUN. */
    static void halves() {
        MergeLine x = code();
        x.test(3, 2, 0, 1);
        queueRow(x, 4);
        due(17, "one RUN", x.go(1), 1);
        due(17, "a DOOMED ROW", x.count(5), 1);
        due(17, "still one STATE", x.count(6), 0);
        due(17, "the first half", x.go(1), 1);
        due(17, "is TAKEN", x.about(0, 2) * 10 + x.about(1, 2), 11);
        dueText(17, "the others", work(x), "2 3");
        due(17, "they are DOOMED, thus halved", x.go(1), 1);
        dueText(17, "two ROWS", work(x), "2 3");
        due(17, "two ROWS", x.count(5), 2);
        due(17, "the rest", x.go(10), 1);
        due(17, "BACK", x.about(2, 1), 6);
        due(17, "by the TEST", x.about(2, 3), 0);
        due(17, "the last is RUN and TAKEN", x.about(3, 2), 2);
        due(17, "RUNS", x.count(7), 4);
        dueText(17, "RUN 0", log(x, 0), "0 4 " + ((1 + 2 * 61 + 3 * 3721 + 4 * 226981) % 1000003) + " 0");
        dueText(17, "RUN 1", log(x, 1), "0 2 123 -1");
        dueText(17, "RUN 2", log(x, 2), "1 1 3 0");
        dueText(17, "RUN 3", log(x, 3), "1 1 4 -1");
    }

    /** Two that fail only together: the second goes BACK by the RUN of both, without one of its own. */
    static void halvesThatHold() {
        MergeLine x = code();
        x.test(3, 0, 0, 5);
        queued(x, 0, 0, 0, 0, 1, 5);
        queued(x, 0, 0, 4, 0, 1, 5);
        due(17, "both together fail, the first is TAKEN", x.go(2), 2);
        due(17, "the second", x.about(1, 1), 3);
        due(17, "no RUN more", x.go(1), 0);
        due(17, "BACK", x.about(1, 1), 6);
        due(17, "the TEST of the RUN of both", x.about(1, 3), 0);
    }

    static void passedBy() {
        MergeLine x = code();
        queued(x, 0, 0, 0, 1, 1, 5);
        queued(x, 0, 0, 1, 1, 1, 6);
        queued(x, 0, 0, 3, 1, 1, 7);
        queued(x, 2, 1, 0, 1, 1, 8);
        queued(x, 0, 2, 0, 1, 1, 9);
        due(17, "RUN", x.go(1), 1);
        dueText(17, "1 is passed by, 3 ends it", log(x, 0), "0 2 " + (1 + 3 * 61) + " -1");
        dueText(17, "THE LINE", theLine(x), "1 3 4");
        due(17, "RUN", x.go(1), 1);
        due(17, "1 is BACK", x.about(1, 1), 5);
        dueText(17, "3 alone", log(x, 1), "1 1 4 -1");
        due(17, "RUN", x.go(10), 1);
        dueText(17, "4", log(x, 2), "2 1 5 -1");
    }

    static void alone() {
        MergeLine x = code();
        queued(x, 0, 0, 0, 1, 1, 5);
        queued(x, 1, 0, 0, 1, 1, 6);
        queued(x, 1, 0, 0, 1, 1, 7);
        queued(x, 1, 2, 0, 1, 1, 8);
        queued(x, 2, 0, 3, 1, 1, 9);
        due(17, "RUNS", x.go(10), 3);
        dueText(17, "the first URGENT one", log(x, 0), "0 1 2 -1");
        due(17, "the second clashes", x.about(2, 1), 5);
        dueText(17, "the third", log(x, 1), "1 1 4 -1");
        due(17, "0 clashes", x.about(0, 1), 5);
        dueText(17, "the WIDE one", log(x, 2), "2 1 5 -1");
        MergeLine y = code();
        changed(y, 2, 0, 0, 0, 1, 5);
        changed(y, 0, 1, 0, 0, 1, 5);
        changed(y, 0, 2, 0, 0, 1, 5);
        changed(y, 1, 3, 0, 0, 1, 5);
        y.pair(2, 3);
        for (int i = 0; i < 4; i++) y.queue(i);
        due(17, "RUNS", y.go(10), 3);
        dueText(17, "a PAIR with an URGENT one", log(y, 0), "0 2 " + (3 + 4 * 61) + " -1");
        dueText(17, "then the WIDE one", log(y, 1), "1 1 1 -1");
    }

    /** A UNIT leaves the first half: what is left of that is TAKEN, but the others are not DOOMED. */
    static void othersThatLeft() {
        MergeLine x = code();
        x.test(3, 2, 0, 1);
        for (int i = 0; i < 4; i++) changed(x, i == 1 ? 3 : 0, i, 0, 0, 1, 5);
        x.hand(1, true);
        for (int i = 0; i < 4; i++) x.queue(i);
        x.go(1);
        x.hand(1, false);
        due(17, "in a ROW, not READY", x.about(1, 1), 3);
        x.go(1);
        due(17, "left the ROW, which is RUN", x.log(1, 1), 3);
        due(17, "stays in THE LINE", x.about(1, 1), 2);
        x.go(1);
        due(17, "the half of 3 is 1", x.log(2, 1), 1);
        due(17, "and is TAKEN", x.about(0, 1), 4);
        dueText(17, "others", work(x), "2 3");
        x.go(10);
        due(17, "2", x.about(2, 1), 6);
        due(17, "3", x.about(3, 1), 4);
        MergeLine y = eightWithOneHeld();
        y.test(3, 5, 0, 0);
        y.go(2);
        dueText(17, "first half is TAKEN, the others are DOOMED", y.count(4) + " " + y.count(5), "4 1");
        y.go(1);
        dueText(17, "half of them", log(y, 2), "1 2 " + (5 + 6 * 61) + " 0");
        MergeLine z = eightWithOneHeld();
        z.test(3, 0, 0, 4);
        z.go(2);
        dueText(17, "8, then 4 fail", work(z), "0 1 2 3 4 5 6 7");
        z.hand(1, false);
        z.go(1);
        dueText(17, "1 left: 0 2 3 are RUN again", log(z, 2), "0 3 " + (1 + 3 * 61 + 4 * 3721) + " 0");
        MergeLine w = eightWithOneHeld();
        w.test(3, 1, 0, 2);
        w.go(2);
        w.hand(1, false);
        w.go(1);
        due(17, "what is left of the first half is TAKEN", w.about(3, 2), 1);
        w.go(1);
        due(17, "but one had left: the others are RUN as they are", w.log(3, 1), 4);
        due(17, "and TAKEN", w.about(7, 2), 2);
    }

    static MergeLine eightWithOneHeld() {
        MergeLine x = code();
        for (int i = 0; i < 8; i++) changed(x, i == 1 ? 3 : 0, i, 0, 0, 1, 5);
        x.hand(1, true);
        x.size(8);
        for (int i = 0; i < 8; i++) x.queue(i);
        return x;
    }

    /**
     * A HELD CHANGE fails, leaves its ROW when the hand is taken, and is RUN anew. So many RUNS need
     * more calls than the document looks at; the bound must stand all the same.
     */
    static void fullLog() {
        MergeLine x = new MergeLine(1);
        x.test(3, 0, 9, 24);
        queued(x, 3, 0, 0, 0, 1, 7);
        for (int run = 0; run < 600; run++) {
            x.hand(0, true);
            if (run == 590) x.keep();
            due(17, "go at " + run + " RUNS", x.go(1), 1);
            due(17, "go(10) at " + (run + 1) + " RUNS", run < 590 ? 0 : x.go(10), run < 590 ? 0 : FULL);
            x.hand(0, false);
            if (run < 590) due(17, "leaves its ROW", x.go(10), 0);
            else if (run < 599) due(17, "leaves its ROW", x.go(1), 0);
        }
        due(17, "BAD ahead of FULL", x.go(11), BAD);
        due(17, "nothing is to be done", x.go(1), FULL);
        due(17, "the last RUN", x.log(599, 1), 1);
        due(17, "RUNS", x.count(7), 600);
        x.goBack();
        due(17, "go(10) at 590 RUNS", x.go(10), 1);
    }

    static void promise18() {
        MergeLine x = code();
        due(18, "no such", x.about(0, 0), BAD);
        int a = changed(x, 3, 0, 0, 1, 1, 5);
        for (int i : new int[] {-1, 6, Integer.MIN_VALUE, Integer.MAX_VALUE}) due(18, "what", x.about(a, i), BAD);
        for (int i : WRONG) due(18, "CHANGE", x.about(i, 0), BAD);
        int[] want = {3, 0, NONE, NONE, 1, NONE};
        for (int i = 0; i < 6; i++) due(18, "new one: " + i, x.about(a, i), want[i]);
        x.queue(a);
        due(18, "not READY", x.about(a, 1), 2);
        x.hand(a, true);
        due(18, "READY", x.about(a, 1), 1);
        x.test(3, 0, 0, 3);
        x.go(1);
        due(18, "in a ROW", x.about(a, 1), 3);
        x.hand(a, false);
        due(18, "in a ROW, not READY", x.about(a, 1), 3);
        x.hand(a, true);
        x.go(1);
        due(18, "BACK with FAILS", x.about(a, 1), 6);
        due(18, "the TEST", x.about(a, 3), 0);
        due(18, "no STATE", x.about(a, 2), NONE);
        int b = queued(x, 0, 1, 0, 1, 1, 5);
        int c = queued(x, 0, 1, 0, 1, 1, 6);
        int d = queued(x, 0, 2, 0, 1, 1, 6);
        x.leave(d);
        x.go(9);
        due(18, "TAKEN", x.about(b, 1), 4);
        due(18, "its STATE", x.about(b, 2), 1);
        due(18, "BACK with CLASH", x.about(c, 1), 5);
        due(18, "no TEST", x.about(c, 3), NONE);
        due(18, "GONE", x.about(d, 1), 7);
    }

    static void promise19() {
        MergeLine x = code();
        due(19, "empty", x.inLine(0), NONE);
        for (int i = 0; i < 3; i++) changed(x, 0, i, 0, 0, 1, 5);
        x.queue(2);
        x.queue(0);
        x.queue(1);
        dueText(19, "THE LINE", theLine(x), "2 0 1");
        for (int i : WRONG) due(19, "no place", x.inLine(i), NONE);
        due(19, "no place", x.inLine(3), NONE);
        x.leave(0);
        dueText(19, "THE LINE", theLine(x), "2 1");
        x.test(3, 2, 0, 1);
        x.go(1);
        dueText(19, "those in WORK are in THE LINE", theLine(x), "2 1");
    }

    static void promise20() {
        MergeLine x = code();
        due(20, "empty", x.inWork(0), NONE);
        x.test(3, 0, 0, 4);
        x.test(3, 7, 0, 0);
        for (int i = 0; i < 8; i++) changed(x, 0, i, 0, 0, 1, 5);
        x.pair(1, 3);
        x.size(8);
        for (int i = 0; i < 8; i++) x.queue(i);
        due(20, "nothing ahead of a RUN", x.inWork(0), NONE);
        x.go(1);
        dueText(20, "a ROW, the PAIR at its first one's place", work(x), "0 1 3 2 4 5 6 7");
        x.go(2);
        dueText(20, "from the topmost ROW on", work(x), "0 1 3 2 4 5 6 7");
        due(20, "ROWS", x.count(5), 3);
        for (int i : WRONG) due(20, "no place", x.inWork(i), NONE);
        due(20, "no place", x.inWork(8), NONE);
        x.go(1);
        due(20, "0 went BACK", x.about(0, 1), 6);
        dueText(20, "the other half of its half was TAKEN", work(x), "4 5 6 7");
        due(20, "ROWS", x.count(5), 1);
        x.leave(4);
        dueText(20, "a ROW is looked at by go() alone", work(x), "4 5 6 7");
    }

    static void promise21() {
        MergeLine x = code();
        due(21, "VALUE", x.at(0, 0, 3, 0), 40);
        due(21, "MARK", x.at(0, 0, 3, 1), 4);
        due(21, "behind the end", x.at(0, 0, 4, 0), NONE);
        due(21, "behind the end", x.at(0, 0, 4, 1), NONE);
        due(21, "far behind", x.at(0, 0, Integer.MAX_VALUE, 1), NONE);
        due(21, "ahead", x.at(0, 0, -1, 1), NONE);
        due(21, "STATE", x.at(1, 0, 0, 0), BAD);
        due(21, "FILE", x.at(0, 8, 0, 0), BAD);
        due(21, "what", x.at(0, 0, 0, 2), BAD);
        for (int i : WRONG) {
            due(21, "STATE", x.at(i, 0, 0, 0), BAD);
            due(21, "FILE", x.at(0, i, 0, 0), BAD);
            due(21, "what", x.at(0, 0, 0, i), BAD);
        }
        due(21, "BAD ahead of NONE", x.at(0, 0, 9, 2), BAD);
        queued(x, 0, 0, 1, 2, 3, 50);
        x.go(1);
        dueText(21, "STATE 0", values(x, 0, 0), "10 20 30 40");
        dueText(21, "STATE 1", values(x, 1, 0), "10 50 51 52 40");
        due(21, "another FILE is the same", x.at(1, 1, 1, 1), 6);
    }

    /** Each CHANGE is TAKEN alone: STATE 60 is the last that can be. */
    static void mostStates() {
        MergeLine x = new MergeLine(1);
        x.size(1);
        for (int i = 0; i < 60; i++) {
            queued(x, 0, i % 8, 0, 0, 1, 100 + i);
            x.go(1);
            due(21, "STATE", x.about(i, 2), i + 1);
        }
        due(21, "latest", x.count(6), 60);
        for (int s = 0; s <= 60; s++) {
            for (int file = 0; file < 8; file++) {
                StringBuilder want = new StringBuilder();
                for (int i = s - 1; i >= 0; i--) if (i % 8 == file) want.append(100 + i).append(' ');
                dueText(21, "STATE " + s, values(x, s, file), want.toString().trim());
            }
        }
        due(21, "STATE 61", x.at(61, 0, 0, 0), BAD);
    }

    static void promise22() {
        MergeLine x = code();
        due(22, "none", x.log(0, 0), NONE);
        for (int i : new int[] {-1, 4, Integer.MIN_VALUE, Integer.MAX_VALUE}) due(22, "what", x.log(0, i), BAD);
        x.size(8);
        for (int i = 0; i < 16; i++) changed(x, 0, i % 8, 0, 0, 1, 5);
        x.test(3, 7, 1, 1);
        // Pairs of FILES 0 and 1, 2 and 3: each PAIR FITS, the second row of CHANGES does not.
        for (int i = 0; i < 8; i += 2) x.pair(i, i + 1);
        for (int i = 7; i >= 0; i--) x.queue(i);
        x.go(1);
        long sum = 0, power = 1;
        for (int i = 7; i >= 0; i--) {
            sum = (sum + (i + 1) * power) % 1000003;
            power = power * 61 % 1000003;
        }
        dueText(22, "RUN", log(x, 0), "0 8 " + sum + " -1");
        for (int i : WRONG) due(22, "no RUN", x.log(i, 0), NONE);
        due(22, "no RUN", x.log(1, 3), NONE);
        due(22, "BAD ahead of NONE", x.log(1, 4), BAD);
    }

    static void promise23() {
        MergeLine x = code();
        due(23, "no RUN", x.alter(0, 0, 1), BAD);
        queueRow(x, 1);
        x.go(1);
        due(23, "mask 0", x.alter(0, 0, 0), BAD);
        due(23, "what", x.alter(0, 4, 1), BAD);
        for (int i : WRONG) {
            due(23, "RUN", x.alter(i, 0, 1), BAD);
            due(23, "what", x.alter(0, i, 1), BAD);
        }
        due(23, "STATE", x.alter(0, 0, 5), 5);
        due(23, "CHANGES", x.alter(0, 1, 5), 4);
        due(23, "sum", x.alter(0, 2, Integer.MIN_VALUE), Integer.MIN_VALUE + 1);
        due(23, "answer", x.alter(0, 3, -1), 0);
        dueText(23, "THE LOG", log(x, 0), "5 4 " + (Integer.MIN_VALUE + 1) + " 0");
        due(23, "nothing else: the STATE", x.about(0, 2), 1);
        due(23, "nothing else: RUNS", x.count(7), 1);
        due(23, "again", x.alter(0, 0, 5), 0);
    }

    static void promise24() {
        MergeLine x = code();
        due(24, "empty", x.check(), NONE);
        x.size(1);
        queueRow(x, 3);
        x.go(3);
        due(24, "as it was", x.check(), NONE);
        x.alter(2, 3, 1);
        due(24, "the last", x.check(), 2);
        x.alter(1, 0, 1);
        due(24, "the first of two", x.check(), 1);
        x.alter(1, 0, 1);
        due(24, "altered back", x.check(), 2);
        x.alter(2, 3, 2);
        due(24, "altered twice", x.check(), 2);
        x.alter(2, 3, 3);
        due(24, "back", x.check(), NONE);
    }

    static void promise25and26() {
        MergeLine x = code();
        due(26, "nothing kept", x.goBack(), STATE);
        x.test(3, 0, 0, 24);
        x.odds(0, 500);
        x.size(2);
        queueRow(x, 3);
        x.go(1);
        x.alter(0, 0, 1);
        due(25, "keep", x.keep(), 1);
        String was = all(x);
        for (int turn = 0; turn < 3; turn++) {
            x.alter(0, 1, 1);
            x.size(7);
            x.tries(5, 5);
            x.odds(0, 999);
            x.test(4, 0, 0, 0);
            queued(x, 1, 0, 0, 0, 2, 5);
            x.go(10);
            due(26, "goBack", x.goBack(), 1);
            dueText(26, "turn " + turn, all(x), was);
            due(26, "SIZE", x.size(2), 2);
        }
        due(25, "THE LOG as it is", x.check(), 0);
        x.go(10);
        String then = all(x);
        x.goBack();
        x.go(10);
        dueText(26, "z is as it was, too", all(x), then);
        due(25, "in place of what was kept", x.keep(), 1);
        x.change(0);
        x.goBack();
        dueText(25, "the second", all(x), then);
        int mark = x.count(8);
        due(26, "numbers go on from there", x.change(0), 3);
        x.edit(3, 7, 0, 0, 1, 1);
        due(26, "MARKS go on from there", x.count(8), mark + 1);
    }

    /** What was kept in the midst of WORK goes on as it would have, whatever was done in between. */
    static void keptInWork() {
        MergeLine x = eightWithOneHeld();
        x.test(3, 0, 0, 4);
        x.test(3, 5, 0, 9);
        x.odds(1, 300);
        x.tries(3, 2);
        int[] more = {changed(x, 0, 1, 2, 0, 1, 5), changed(x, 3, 2, 1, 0, 1, 5), changed(x, 0, 3, 0, 0, 1, 5)};
        x.pair(more[0], more[1]);
        x.go(2);
        x.keep();
        String was = all(x);
        String then = goOn(x, more);
        for (int turn = 0; turn < 2; turn++) {
            x.goBack();
            dueText(26, "in WORK", all(x), was);
            x.hand(1, false);
            x.hand(more[1], true);
            x.odds(0, 999);
            x.odds(1, 0);
            x.tries(1, 1);
            x.size(1);
            x.leave(5);
            int made = x.change(3);
            x.hand(made, true);
            x.pair(made, more[2]);
            x.edit(made, 6, 0, 0, 2, 1000);
            x.edit(more[2], 6, 0, 0, 2, 2000);
            x.edit(more[2], 7, 0, 0, 2, 2000);
            x.queue(more[2]);
            x.queue(more[1]);
            x.queue(more[0]);
            x.queue(made);
            x.go(10);
            x.goBack();
            dueText(26, "goes on", goOn(x, more), then);
        }
    }

    static String goOn(MergeLine x, int[] more) {
        int made = x.change(3);
        x.edit(made, 5, 0, 0, 1, 9);
        x.edit(more[2], 4, 0, 0, 1, 9);
        x.queue(made);
        for (int change : more) x.queue(change);
        x.go(3);
        String midst = all(x);
        x.go(10);
        x.hand(more[1], true);
        x.go(10);
        return midst + "//" + all(x) + x.hand(made, true) + x.size(3);
    }

    static String all(MergeLine x) {
        StringBuilder all = new StringBuilder();
        for (int i = 0; i < 10; i++) all.append(x.count(i)).append(' ');
        for (int i = 0; i < x.count(2); i++) for (int w = 0; w < 6; w++) all.append(x.about(i, w)).append(' ');
        for (int i = 0; i < x.count(7); i++) all.append(log(x, i)).append(' ');
        for (int s = 0; s <= x.count(6); s++) for (int f = 0; f < 8; f++) all.append(values(x, s, f)).append('/');
        return all.append(theLine(x)).append('/').append(work(x)).append('/').append(x.check()).toString();
    }

    static void promise27() {
        MergeLine x = code();
        for (int i : new int[] {-1, 10, Integer.MIN_VALUE, Integer.MAX_VALUE}) due(27, "what", x.count(i), BAD);
        x.test(3, 0, 0, 4);
        queueRow(x, 5);
        dueCounts(x, 7, 1, 5, 5, 0, 0, 0, 0, 12, 0);
        x.go(1);
        dueCounts(x, 7, 1, 5, 5, 4, 1, 0, 1, 12, 1);
        x.go(1);
        dueCounts(x, 7, 1, 5, 5, 4, 2, 0, 2, 12, 2);
        x.go(2);
        dueCounts(x, 8, 1, 5, 3, 2, 1, 1, 4, 12, 3);
        x.go(10);
        dueCounts(x, 11, 1, 5, 0, 0, 0, 3, 6, 12, 3);
    }

    static void dueCounts(MergeLine x, int... want) {
        for (int i = 0; i < 10; i++) due(27, "count(" + i + ")", x.count(i), want[i]);
    }

    public static void main(String[] args) {
        promise1();
        promise2();
        promise3();
        promise4();
        promise5();
        promise6();
        promise7();
        promise8();
        mostMarks();
        promise9();
        promise10();
        promise11();
        promise12();
        promise13();
        promise14();
        promise15();
        promise16();
        promise17();
        promise18();
        promise19();
        promise20();
        promise21();
        mostStates();
        promise22();
        promise23();
        promise24();
        promise25and26();
        keptInWork();
        promise27();
        System.out.println(wrong == 0 ? "all promises are as due" : wrong + " answers are not as due");
        if (wrong != 0) System.exit(1);
    }
}
