import java.util.function.Supplier;
import java.util.function.ToIntFunction;

/** The sentences that lead part 1: numbers from 0 on, refusals, their order, and that they change nothing. */
public final class RefusalTest extends Dues {

    /**
     * CHANGES that are of all sorts: 0 TAKEN, 1 GONE, 2 BACK with CLASH, 3 BACK with FAILS, 4 to 6 in
     * a DOOMED ROW, 7 and 8 in THE LINE READY and not, 9 and 10 PAIRED, 11 without EDITS, 12 with four,
     * 13 HELD and being made, 14 a REVERT of 0, 15 with an EDIT of FILE 1. FILE 7 is full.
     */
    static MergeLine allSorts() {
        MergeLine x = new MergeLine(77);
        lines(x, 0, 10, 20, 30, 40);
        lines(x, 1, 1001, 2001);
        lines(x, 2, 7);
        for (int i = 0; i < 24; i++) x.line(7, i);
        ban(x, 6);
        x.test(KNOWN, 1, 0, 0);
        x.odds(x.test(LONG, 5, 0, 24), 400);
        x.tries(5, 3);
        x.size(3);
        put(x, PLAIN, 2);
        x.queue(0);
        x.leave(waiting(x, PLAIN, 3));
        put(x, PLAIN, 2);
        x.go(1);
        x.queue(2);
        waiting(x, PLAIN, 6);
        x.go(2);
        waiting(x, PLAIN, 3);
        x.hand(waiting(x, HELD, 4), true);
        waiting(x, PLAIN, 6);
        waiting(x, PLAIN, 5);
        waiting(x, HELD, 5);
        x.go(1);
        x.pair(put(x, PLAIN, 3), put(x, WIDE, 4));
        x.change(PLAIN);
        x.change(PLAIN);
        for (int file = 0; file < 4; file++) x.edit(12, file, 0, 0, 1, 5);
        put(x, HELD, 0);
        x.revert(0);
        x.keep();
        x.alter(0, 3, 5);
        put(x, URGENT, 1);
        return x;
    }

    /** Shows what is not told at once: HANDS, SIZE, m, h, ODDS, z, what was kept. */
    static String goOn(MergeLine x) {
        StringBuilder all = new StringBuilder();
        for (int i = 0; i < x.count(2); i++) all.append(x.hand(i, true)).append(' ');
        all.append(x.size(8));
        for (int i = 0; i < x.count(2); i++) all.append(' ').append(x.queue(i));
        for (int i = 0; i < 6; i++) all.append(x.go(1)).append('\n').append(everything(x));
        int change = x.change(PLAIN);
        for (int file = 0; file < 5; file++) all.append(x.edit(change, file, 0, 0, 2, 9)).append(' ');
        all.append(x.go(10)).append('\n').append(everything(x)).append(x.goBack());
        all.append('\n').append(everything(x)).append(x.hand(5, false)).append(x.size(4)).append(x.check());
        return all.toString();
    }

    static void dueRefused(String what, Supplier<MergeLine> there, ToIntFunction<MergeLine> call, int want) {
        MergeLine x = there.get(), y = there.get();
        for (int i = 0; i < 3; i++) due(what, call.applyAsInt(x), want);
        due(what + " changes nothing", everything(x), everything(y));
        due(what + " changes nothing that shows later", goOn(x), goOn(y));
    }

    static void refused(String what, ToIntFunction<MergeLine> call, int want) {
        dueRefused(what, RefusalTest::allSorts, call, want);
    }

    static void bad() {
        for (int n : new int[] {-1, -2, LEAST, MOST}) {
            refused("line: FILE", x -> x.line(n, 5), BAD);
            refused("line: VALUE", x -> x.line(0, n), BAD);
            refused("test: KIND", x -> x.test(n, 0, 1, 0), BAD);
            refused("test: FILE", x -> x.test(LONG, n, 0, 0), BAD);
            refused("test: name", x -> x.test(GIVEN, n, 0, 0), BAD);
            refused("test: b", x -> x.test(SUM, 0, n, 0), BAD);
            refused("test: c", x -> x.test(LONG, 0, 0, n), BAD);
            refused("odds: TEST", x -> x.odds(n, 5), BAD);
            refused("odds: q", x -> x.odds(2, n), BAD);
            refused("tries: m", x -> x.tries(n, 1), BAD);
            refused("tries: h", x -> x.tries(9, n), BAD);
            refused("holds: TEST", x -> x.holds(n, 0), BAD);
            refused("holds: STATE", x -> x.holds(0, n), BAD);
            refused("change: KIND", x -> x.change(n), BAD);
            refused("edit: CHANGE", x -> x.edit(n, 0, 0, 0, 1, 5), BAD);
            refused("edit: FILE", x -> x.edit(15, n, 0, 0, 1, 5), BAD);
            refused("edit: at", x -> x.edit(15, 0, n, 0, 1, 5), BAD);
            refused("edit: t", x -> x.edit(15, 0, 0, n, 1, 5), BAD);
            refused("edit: p", x -> x.edit(15, 0, 0, 1, n, 5), BAD);
            refused("edit: v", x -> x.edit(15, 0, 0, 0, 1, n), BAD);
            refused("revert", x -> x.revert(n), BAD);
            refused("pair: first", x -> x.pair(n, 15), BAD);
            refused("pair: second", x -> x.pair(15, n), BAD);
            refused("fits", x -> x.fits(n), BAD);
            refused("touches: CHANGE", x -> x.touches(n, 0), BAD);
            refused("touches: TEST", x -> x.touches(0, n), BAD);
            refused("queue", x -> x.queue(n), BAD);
            refused("leave", x -> x.leave(n), BAD);
            refused("hand, given", x -> x.hand(n, true), BAD);
            refused("hand, taken", x -> x.hand(n, false), BAD);
            refused("size", x -> x.size(n), BAD);
            refused("go", x -> x.go(n), BAD);
            refused("about: CHANGE", x -> x.about(n, 0), BAD);
            refused("about: what", x -> x.about(0, n), BAD);
            refused("at: STATE", x -> x.at(n, 0, 0, 0), BAD);
            refused("at: FILE", x -> x.at(0, n, 0, 0), BAD);
            refused("at: what", x -> x.at(0, 0, 0, n), BAD);
            refused("log: what", x -> x.log(0, n), BAD);
            refused("alter: RUN", x -> x.alter(n, 0, 1), BAD);
            refused("alter: what", x -> x.alter(0, n, 1), BAD);
            refused("count", x -> x.count(n), BAD);
        }
        refused("edit: nothing", x -> x.edit(15, 0, 0, 0, 0, 5), BAD);
        refused("pair: with itself", x -> x.pair(15, 15), BAD);
        refused("alter: mask", x -> x.alter(0, 0, 0), BAD);
        refused("size 0", x -> x.size(0), BAD);
        refused("go 0", x -> x.go(0), BAD);
    }

    static void notNow() {
        refused("line: there is a CHANGE", x -> x.line(0, 5), STATE);
        refused("edit: of old", x -> x.edit(2, 0, 0, 0, 1, 5), STATE);
        for (int i = 0; i <= 8; i++) {
            int change = i;
            refused("edit: is or was in THE LINE, " + i, x -> x.edit(change, 0, 0, 0, 1, 5), STATE);
            refused("pair: is or was in THE LINE, " + i, x -> x.pair(change, 13), STATE);
            refused("pair: is or was in THE LINE, second " + i, x -> x.pair(13, change), STATE);
            refused("queue: is or was there, " + i, x -> x.queue(change), STATE);
            if (i > 0) refused("revert: is not TAKEN, " + i, x -> x.revert(change), STATE);
            if (i < 4) refused("leave: is not in THE LINE, " + i, x -> x.leave(change), STATE);
            if (i != 5 && i != 8) refused("hand: is not HELD, " + i, x -> x.hand(change, true), STATE);
        }
        for (int i = 9; i <= 15; i++) {
            int change = i;
            refused("leave: is being made, " + i, x -> x.leave(change), STATE);
            refused("revert: is being made, " + i, x -> x.revert(change), STATE);
        }
        refused("edit: has an EDIT in that FILE", x -> x.edit(15, 1, 0, 0, 1, 5), STATE);
        refused("edit: is a REVERT", x -> x.edit(14, 0, 0, 0, 1, 5), STATE);
        refused("hand: is a REVERT", x -> x.hand(14, false), STATE);
        refused("queue: no EDITS", x -> x.queue(11), STATE);
        refused("pair: is PAIRED", x -> x.pair(9, 13), STATE);
        refused("pair: is PAIRED, second", x -> x.pair(13, 10), STATE);
        dueRefused("edit: its STATE is not the latest one", () -> {
            MergeLine x = allSorts();
            x.go(10);
            return x;
        }, x -> x.edit(11, 5, 0, 0, 1, 5), STATE);
        dueRefused("revert: does not FIT", () -> {
            MergeLine x = allSorts();
            x.leave(4);
            x.leave(5);
            x.leave(6);
            taken(x, 2, 0, 0, 1, 5);
            return x;
        }, x -> x.revert(0), STATE);
        MergeLine plain = code();
        String was = everything(plain);
        due("goBack: nothing was kept", plain.goBack(), STATE);
        due("goBack changes nothing", everything(plain), was);
    }

    static void full() {
        dueRefused("line", () -> counting(24), x -> x.line(0, 5), FULL);
        dueRefused("test", () -> {
            MergeLine x = allSorts();
            for (int i = x.count(1); i < 24; i++) x.test(RISING, 0, 0, 0);
            return x;
        }, x -> x.test(SUM, 0, 10, 0), FULL);
        Supplier<MergeLine> sixty = () -> {
            MergeLine x = allSorts();
            for (int i = x.count(2); i < 60; i++) x.change(PLAIN);
            return x;
        };
        dueRefused("change", sixty, x -> x.change(HELD), FULL);
        dueRefused("revert", sixty, x -> x.revert(0), FULL);
        refused("edit: four", x -> x.edit(12, 5, 0, 0, 1, 5), FULL);
        refused("edit: 25 LINES", x -> x.edit(11, 7, 3, 2, 3, 5), FULL);
    }

    static void order() {
        sentence("NONE = -1, BAD = -2, STATE = -3, FULL = -4", () -> {
            due("NONE", MergeLine.NONE, -1);
            due("BAD", MergeLine.BAD, -2);
            due("STATE", MergeLine.STATE, -3);
            due("FULL", MergeLine.FULL, -4);
        });
        sentence("Numbers go from 0 on", () -> {
            MergeLine x = empty();
            due("TEST", x.test(LONG, 0, 0, 24), 0);
            due("CHANGE", x.change(PLAIN), 0);
            x.edit(0, 0, 0, 0, 1, 5);
            due("place of THE LINE", x.queue(0), 0);
            due("the CHANGE there", x.inLine(0), 0);
            due("STATE", x.count(6), 0);
            due("RUN", x.log(0, 0) + x.go(1) + x.log(0, 0), NONE + 1);
        });
        sentence("Refusals are answers, the first of these that fits: BAD ahead of STATE and FULL", () -> {
            MergeLine x = counting(24);
            x.keep();
            int none = x.change(PLAIN);
            due("line", x.line(0, 10000) * 10 + x.line(8, 5), BAD * 11);
            due("line: STATE ahead of FULL", x.line(0, 5), STATE);
            x.goBack();
            due("line: BAD ahead of FULL", x.line(0, -1), BAD);
            due("line: FULL", x.line(0, 5), FULL);
            for (int i = 0; i < 24; i++) x.test(RISING, 0, 0, 0);
            due("test", x.test(RISING, 8, 0, 0), BAD);
            for (int i = 0; i < 60; i++) x.change(PLAIN);
            due("change", x.change(4), BAD);
            for (int file = 1; file <= 4; file++) x.edit(none, file, 0, 0, 1, 5);
            due("edit: BAD ahead of FULL, four", x.edit(none, 5, 1, 0, 1, 5), BAD);
            due("edit: STATE ahead of FULL, four", x.edit(none, 4, 0, 0, 1, 5), STATE);
            due("edit: BAD ahead of FULL, LINES", x.edit(1, 0, 24, 0, 1, 9999), BAD);
            due("edit: STATE ahead of FULL, LINES", x.edit(1, 0, 0, 1, 1, 5) + x.edit(1, 0, 0, 0, 1, 5), 1 + STATE);
            x.queue(none);
            due("edit: BAD ahead of STATE", x.edit(none, 0, 0, 0, 0, 5), BAD);
            due("edit: STATE ahead of FULL", x.edit(none, 0, 0, 0, 1, 5), STATE);
            due("pair: BAD ahead of STATE", x.pair(none, none), BAD);
            due("pair: BAD ahead of STATE", x.pair(none, 60), BAD);
            due("revert: STATE ahead of FULL", x.revert(1), STATE);
            due("revert: BAD ahead of FULL", x.revert(60), BAD);
        });
        sentence("What is refused changes nothing", () -> {
            MergeLine x = allSorts();
            due("CHANGES are of all sorts", stands(x), "4756333120000000");
            due("EDITS", x.about(11, 4) + "," + x.about(12, 4) + "," + x.about(15, 4), "0,4,1");
            due("FILE 7", x.at(1, 7, 23, 0), 23);
        });
        sentence("What is refused changes nothing: BAD", RefusalTest::bad);
        sentence("What is refused changes nothing: STATE", RefusalTest::notNow);
        sentence("What is refused changes nothing: FULL", RefusalTest::full);
    }

    // ---- no call throws

    private static long dice = 42;

    static int any(int n) {
        dice = dice * 6364136223846793005L + 1442695040888963407L;
        int roll = (int) ((dice >>> 33) % 40);
        if (roll == 0) return LEAST;
        if (roll == 1) return MOST;
        if (roll == 2) return -1;
        if (roll == 3) return n;
        return (int) ((dice >>> 40) % Math.max(1, n));
    }

    static int anyCall(MergeLine x) {
        int made = x.count(2);
        switch (any(27)) {
            case 0: return x.line(any(8), any(10000));
            case 1: return x.test(any(5), any(8), any(25), any(25));
            case 2: return x.odds(any(24), any(1000));
            case 3: return x.tries(any(10), any(10));
            case 4: return x.holds(any(24), any(4));
            case 5: return x.change(any(4));
            case 6: case 7: return x.edit(made - 1, any(8), any(8), any(4), any(5), 990 + any(50));
            case 8: return x.revert(any(made));
            case 9: return x.pair(any(made), made - 1);
            case 10: return x.fits(any(made));
            case 11: return x.touches(any(made), any(24));
            case 12: case 13: return x.queue(made - 1);
            case 14: return any(5) == 0 ? x.leave(any(made)) : 0;
            case 15: return x.hand(any(made), any(2) == 0);
            case 16: return x.size(any(10));
            case 17: return x.go(any(11));
            case 18: return x.about(any(made), any(6));
            case 19: return x.inLine(any(61)) + x.inWork(any(17));
            case 20: return x.at(any(61), any(8), any(25), any(2));
            case 21: return x.log(any(601), any(4));
            case 22: return x.alter(any(601), any(4), any(9));
            case 23: return x.check();
            case 24: return any(9) == 0 ? x.keep() : 0;
            case 25: return x.goBack();
            default: return x.count(any(10));
        }
    }

    static void neverThrows() {
        sentence("what later calls answer is free: but no call throws", () -> {
            for (int seed = 0; seed < 60; seed++) {
                MergeLine x = new MergeLine(seed);
                for (int i = 0; i < 5000; i++) anyCall(x);
            }
        });
    }

    public static void main(String[] args) {
        order();
        neverThrows();
        end();
    }
}
