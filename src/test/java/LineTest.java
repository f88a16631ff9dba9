/** The sentences of part 3, THE LINE, on UNITS and BATCHES, and of the promises 13 to 16 and 19. */
public final class LineTest extends Dues {

    /** CHANGES of these KINDS, each with a FILE of its own, none in THE LINE. */
    static MergeLine made(int... kinds) {
        MergeLine x = empty();
        for (int file = 0; file < kinds.length; file++) put(x, kinds[file], file);
        return x;
    }

    static MergeLine inLine(int... kinds) {
        MergeLine x = made(kinds);
        for (int i = 0; i < kinds.length; i++) x.queue(i);
        return x;
    }

    static void queue(MergeLine x, int... changes) {
        for (int change : changes) x.queue(change);
    }

    /** The next RUN takes these CHANGES and no others. */
    static void dueRun(String what, MergeLine x, int... changes) {
        int run = x.count(7), state = x.count(6);
        due(what + ": RUNS", x.go(1), 1);
        due(what, log(x, run), run(state, NONE, changes));
    }

    static void units() {
        sentence("UNITS: a CHANGE, or two that are PAIRED (in THE LINE's order; at the place of the first)", () -> {
            MergeLine x = made(0, 0, 0, 0, 0);
            x.pair(0, 3);
            x.pair(4, 2);
            queue(x, 1, 3, 4, 0, 2);
            dueRun("the second of a PAIR came first into THE LINE", x, 1, 3, 0, 4, 2);
            MergeLine y = made(0, 0, 0, 0);
            y.pair(1, 3);
            queue(y, 0, 1, 2, 3);
            ban(y, 2);
            y.go(1);
            due("in WORK", work(y), "0 1 3 2");
            due("in THE LINE", theLine(y), "0 1 2 3");
        });
        sentence("A UNIT is READY, if none of its CHANGES is HELD and without a HAND", () -> {
            MergeLine x = made(HELD, HELD, HELD, PLAIN, PLAIN);
            x.pair(1, 2);
            x.pair(3, 4);
            queue(x, 0, 1, 2, 3, 4);
            due("without HANDS", stands(x), "22211");
            x.hand(0, true);
            due("a HAND", stands(x), "12211");
            x.hand(1, true);
            due("one HAND of two", stands(x), "12211");
            x.hand(2, true);
            due("both", stands(x), "11111");
            x.hand(1, false);
            due("the other of two", stands(x), "12211");
            dueRun("the READY ones", x, 0, 3, 4);
            due("no other", x.go(1), 0);
            due("they wait", stands(x), "42244");
            MergeLine y = made(PLAIN, HELD);
            y.pair(0, 1);
            queue(y, 0, 1);
            due("of a PAIR neither is", stands(y), "22");
            due("no RUN", y.go(1), 0);
            MergeLine z = made(HELD);
            z.hand(0, true);
            z.queue(0);
            due("a HAND that was given ahead of THE LINE", stands(z), "1");
        });
        sentence("and of a PAIR both are in THE LINE", () -> {
            MergeLine x = made(0, 0, 0);
            x.pair(0, 1);
            queue(x, 1, 2);
            due("one of two", stands(x), "021");
            dueRun("the other UNIT", x, 2);
            due("no RUN", x.go(1), 0);
            x.queue(0);
            due("both", stands(x), "114");
            dueRun("both", x, 1, 0);
            MergeLine y = made(0, 0);
            y.pair(0, 1);
            queue(y, 0, 1);
            y.leave(0);
            due("one is GONE", stands(y), "72");
            due("no RUN", y.go(1), 0);
            due("it waits", theLine(y), "1");
        });
    }

    static void urgent() {
        sentence("if one of them has an URGENT CHANGE: the first such one alone", () -> {
            MergeLine x = inLine(PLAIN, URGENT, PLAIN, URGENT);
            dueRun("the first", x, 1);
            dueRun("the second", x, 3);
            dueRun("the others together", x, 0, 2);
            MergeLine y = made(PLAIN, PLAIN, URGENT, URGENT);
            y.pair(0, 3);
            queue(y, 1, 0, 2, 3);
            dueRun("the first UNIT, whose second CHANGE is URGENT", y, 0, 3);
            dueRun("then", y, 2);
            MergeLine z = inLine(WIDE, PLAIN, URGENT);
            dueRun("ahead of a WIDE one", z, 2);
            dueRun("that is WIDE", z, 0);
            MergeLine w = made(WIDE, URGENT, PLAIN);
            w.pair(0, 1);
            queue(w, 2, 0, 1);
            dueRun("a PAIR of a WIDE and an URGENT one", w, 0, 1);
        });
        sentence("one of them: only READY UNITS count", () -> {
            MergeLine x = made(PLAIN, URGENT, HELD, PLAIN);
            x.pair(1, 2);
            queue(x, 0, 1, 2, 3);
            dueRun("the URGENT one is PAIRED with a HELD one", x, 0, 3);
            x.hand(2, true);
            dueRun("with a HAND", x, 1, 2);
            MergeLine y = made(PLAIN, URGENT, PLAIN, PLAIN);
            y.pair(1, 3);
            queue(y, 0, 1, 2);
            dueRun("the URGENT one's other is not in THE LINE", y, 0, 2);
        });
    }

    static void wide() {
        sentence("Else, if the first one has a WIDE one: it alone", () -> {
            MergeLine x = inLine(WIDE, PLAIN, PLAIN);
            dueRun("first", x, 0);
            dueRun("then the others", x, 1, 2);
            MergeLine y = made(PLAIN, PLAIN, WIDE);
            y.pair(0, 2);
            queue(y, 0, 1, 2);
            dueRun("a PAIR that has a WIDE one", y, 0, 2);
            dueRun("then", y, 1);
            MergeLine z = inLine(WIDE, WIDE);
            dueRun("two WIDE ones", z, 0);
            dueRun("each alone", z, 1);
        });
        sentence("from the first one on, in order, each that has no WIDE one, up to the first that has", () -> {
            MergeLine x = inLine(PLAIN, PLAIN, WIDE, PLAIN);
            dueRun("up to the WIDE one", x, 0, 1);
            dueRun("the WIDE one alone", x, 2);
            dueRun("the rest", x, 3);
            MergeLine y = made(PLAIN, PLAIN, PLAIN, WIDE);
            y.pair(1, 3);
            queue(y, 0, 1, 2, 3);
            dueRun("up to a PAIR that has a WIDE one", y, 0);
            dueRun("the PAIR", y, 1, 3);
        });
        sentence("the first one, the first that has: of READY UNITS", () -> {
            MergeLine x = made(WIDE, HELD, PLAIN, WIDE, PLAIN);
            x.pair(0, 1);
            queue(x, 0, 1, 2, 4, 3);
            dueRun("a WIDE one that is not READY is the first", x, 2, 4);
            MergeLine y = made(PLAIN, WIDE, HELD, PLAIN);
            y.pair(1, 2);
            queue(y, 0, 1, 2, 3);
            dueRun("a WIDE one that is not READY is between", y, 0, 3);
            MergeLine z = inLine(HELD, WIDE, PLAIN);
            dueRun("the WIDE one is the first that is READY", z, 1);
        });
    }

    static void sizes() {
        sentence("up to SIZE (1 .. 8; 4 at first) UNITS", () -> {
            dueRange("SIZE", 1, 8, n -> empty().size(n));
            dueRun("4 at first", inLine(0, 0, 0, 0, 0, 0), 0, 1, 2, 3);
            MergeLine x = inLine(0, 0, 0);
            x.size(1);
            dueRun("1", x, 0);
            x.size(2);
            dueRun("2", x, 1, 2);
            MergeLine y = inLine(0, 0, 0, 0, 0, 0, 0, 0);
            lineOf(y, 0, 9);
            y.size(8);
            dueRun("8 of 9", y, 0, 1, 2, 3, 4, 5, 6, 7);
            MergeLine z = made(0, 0, 0, 0, 0);
            z.pair(0, 4);
            z.pair(1, 2);
            z.size(2);
            queue(z, 0, 1, 2, 3, 4);
            dueRun("a PAIR is one UNIT", z, 0, 4, 1, 2);
            MergeLine w = new MergeLine(1);
            for (int i = 0; i < 16; i++) lines(w, i / 2, i);
            w.size(8);
            for (int i = 0; i < 16; i++) changed(w, PLAIN, i / 2, i % 2, 1, 1, 100 + i);
            for (int i = 0; i < 16; i += 4) {
                w.pair(i, i + 2);
                w.pair(i + 1, i + 3);
            }
            for (int i = 0; i < 16; i++) w.queue(i);
            w.go(1);
            due("8 PAIRS, of which 4 do not FIT behind the others", w.log(0, 1), 8);
        });
    }

    static void lineOf(MergeLine x, int file, int value) {
        queued(x, PLAIN, file, 0, 0, 1, value);
    }

    static void passing() {
        sentence("one that does not FIT behind all those that are of the BATCH, is passed by", () -> {
            MergeLine x = code();
            x.size(2);
            queued(x, PLAIN, 0, 0, 1, 1, 50);
            queued(x, PLAIN, 0, 1, 1, 1, 51);
            queued(x, PLAIN, 0, 3, 1, 1, 52);
            queued(x, PLAIN, 1, 0, 1, 1, 53);
            dueRun("1 stands beside what 0 takes; two UNITS all the same", x, 0, 2);
            due("it stays", theLine(x), "1 3");
            due("READY", stands(x), "4141");
            MergeLine y = code();
            ban(y, 3);
            waiting(y, PLAIN, 3);
            waiting(y, PLAIN, 3);
            waiting(y, PLAIN, 4);
            waiting(y, PLAIN, 4);
            y.go(1);
            due("two are passed by", log(y, 0), run(0, 0, 0, 2));
            MergeLine z = code();
            queued(z, PLAIN, 0, 0, 1, 1, 50);
            queued(z, PLAIN, 2, 0, 1, 1, 51);
            queued(z, PLAIN, 0, 1, 1, 1, 52);
            dueRun("behind all, not behind the last alone", z, 0, 1);
        });
        sentence("is passed by: nothing of it is done", () -> {
            MergeLine x = empty();
            waiting(x, PLAIN, 0);
            int half = changed(x, PLAIN, 5, 0, 0, 1, 50);
            x.edit(half, 0, 0, 0, 1, 51);
            x.queue(half);
            waiting(x, PLAIN, 5);
            dueRun("its EDIT of FILE 5 would FIT, that of FILE 0 does not", x, 0, 2);
            due("FILE 5", latest(x, 5), "105");
            MergeLine y = empty();
            waiting(y, PLAIN, 0);
            put(y, PLAIN, 5);
            put(y, PLAIN, 0);
            y.pair(1, 2);
            queue(y, 1, 2);
            waiting(y, PLAIN, 5);
            dueRun("the first of the PAIR would FIT, the second does not", y, 0, 3);
            due("FILE 5", latest(y, 5), "105");
        });
        sentence("is passed by: a later BATCH has it, if it FITS then", () -> {
            MergeLine x = empty();
            ban(x, 3);
            x.size(1);
            int bad = changed(x, PLAIN, 3, 0, 0, 1, 5);
            x.edit(bad, 4, 0, 0, 1, 5);
            x.queue(bad);
            int good = waiting(x, PLAIN, 4);
            x.go(10);
            due("what they are", stands(x), "64");
            due("the one that was passed by is TAKEN", x.about(good, 2), 1);
        });
        sentence("(its CHANGES one behind the other)", () -> {
            MergeLine x = restored();
            x.pair(2, 1);
            queue(x, 2, 1);
            due("2 FITS alone, 1 does not", x.fits(2) * 10 + x.fits(1), 10);
            dueRun("1 FITS behind 2", x, 2, 1);
            MergeLine y = restored();
            y.pair(2, 1);
            queue(y, 1, 2);
            due("2 behind 1: no RUN", y.go(1), 0);
            due("both are BACK", stands(y), "455");
            MergeLine z = empty();
            put(z, PLAIN, 3);
            put(z, PLAIN, 3);
            z.pair(0, 1);
            queue(z, 0, 1);
            due("each FITS alone", z.fits(0) + z.fits(1), 2);
            due("they do not FIT one behind the other", z.go(1), 0);
            due("both are BACK", stands(z), "55");
            MergeLine w = empty();
            put(w, PLAIN, 5);
            put(w, PLAIN, 3);
            put(w, PLAIN, 4);
            put(w, PLAIN, 4);
            w.pair(1, 2);
            queue(w, 0, 3, 1, 2);
            dueRun("the second of a PAIR does not FIT behind 3", w, 0, 3);
            due("both wait", stands(w), "4114");
        });
        sentence("of what FITS behind those of the BATCH it is not asked whether it FITS alone", () -> {
            MergeLine x = restored();
            queue(x, 2, 1);
            dueRun("1 FITS behind 2 only", x, 2, 1);
            due("FILE 0", latest(x, 0), "10 500 20");
        });
        sentence("a UNIT that goes BACK, or is passed by, ends nothing and counts for nothing", () -> {
            MergeLine x = code();
            queued(x, PLAIN, 0, 0, 1, 1, 50);
            queued(x, PLAIN, 0, 0, 1, 1, 51);
            queued(x, PLAIN, 1, 0, 1, 1, 52);
            queued(x, PLAIN, 2, 0, 1, 1, 53);
            queued(x, PLAIN, 3, 0, 0, 1, 54);
            x.size(3);
            dueRun("the second is passed by", x, 0, 2, 3);
            due("what they are", stands(x), "41441");
            MergeLine y = empty();
            int late = put(y, PLAIN, 3);
            taken(y, 3, 0, 0, 1, 5);
            waiting(y, PLAIN, 0);
            y.queue(late);
            waiting(y, PLAIN, 1);
            waiting(y, PLAIN, 2);
            y.size(2);
            dueRun("the second goes BACK", y, 2, 3);
            due("what they are", stands(y), "54441");
        });
    }

    /**
     * FILE 0 was 10 20, and is 10 since 0 was TAKEN. 1 puts 500 between 10 and 20: it FITS only
     * behind 2, the REVERT of 0.
     */
    static MergeLine restored() {
        MergeLine x = empty();
        lines(x, 0, 10, 20);
        int gone = changed(x, PLAIN, 0, 1, 1, 0, 0);
        changed(x, PLAIN, 0, 1, 0, 1, 500);
        x.queue(gone);
        x.go(1);
        x.revert(gone);
        return x;
    }

    static void clashes() {
        sentence("if it does not FIT the latest STATE alone, it goes BACK: its CHANGES are out of THE LINE, for good, with reason CLASH", () -> {
            MergeLine x = empty();
            int late = put(x, PLAIN, 3), other = put(x, PLAIN, 5);
            taken(x, 3, 0, 0, 1, 5);
            queue(x, late);
            due("in THE LINE it waits", stands(x), "104");
            due("no RUN", x.go(1), 0);
            due("BACK", stands(x), "504");
            due("out of THE LINE", theLine(x) + x.count(3), "0");
            due("no STATE, no TEST", x.about(late, 2) + x.about(late, 3), NONE + NONE);
            due("for good", x.queue(late), STATE);
            due("for good", x.leave(late), STATE);
            due("for good", x.pair(late, other), STATE);
            MergeLine y = empty();
            int a = put(y, PLAIN, 3), b = put(y, PLAIN, 4);
            y.pair(a, b);
            taken(y, 4, 0, 0, 1, 5);
            queue(y, a, b);
            y.go(1);
            due("both of a PAIR", stands(y), "554");
            due("out of THE LINE", y.count(3), 0);
        });
        sentence("what lies behind SIZE UNITS, or a WIDE one, is not looked at", () -> {
            MergeLine x = empty();
            int late = put(x, PLAIN, 3);
            taken(x, 3, 0, 0, 1, 5);
            waiting(x, PLAIN, 0);
            waiting(x, PLAIN, 1);
            x.queue(late);
            x.size(2);
            dueRun("two UNITS", x, 2, 3);
            due("the third is not BACK yet", x.about(late, 1), READY);
            due("now it is looked at", x.go(1), 0);
            due("BACK", x.about(late, 1), CLASH);
            MergeLine y = empty();
            late = put(y, PLAIN, 3);
            taken(y, 3, 0, 0, 1, 5);
            waiting(y, PLAIN, 0);
            waiting(y, WIDE, 1);
            y.queue(late);
            dueRun("up to the WIDE one", y, 2);
            due("the one behind it is not BACK yet", y.about(late, 1), READY);
        });
        sentence("what is not READY is not looked at", () -> {
            MergeLine x = empty();
            int late = put(x, HELD, 3);
            taken(x, 3, 0, 0, 1, 5);
            x.queue(late);
            due("no RUN", x.go(1), 0);
            due("it waits", x.about(late, 1), NOT_READY);
            x.hand(late, true);
            due("no RUN", x.go(1), 0);
            due("BACK", x.about(late, 1), CLASH);
        });
        sentence("(The first READY UNIT that is URGENT, or WIDE, likewise; then a BATCH is looked for anew, from the beginning.)", () -> {
            MergeLine x = empty();
            int plain = waiting(x, PLAIN, 0);
            int late = put(x, URGENT, 3), second = put(x, URGENT, 4), third = put(x, URGENT, 5);
            taken(x, 3, 0, 0, 1, 5);
            queue(x, late, second, third);
            due("no CLASH as long as none looks", x.about(late, 1), READY);
            dueRun("the second URGENT one", x, second);
            due("the first is BACK", x.about(late, 1), CLASH);
            dueRun("the third", x, third);
            dueRun("the PLAIN one", x, plain);
            MergeLine y = empty();
            int wide = put(y, WIDE, 3), after = put(y, PLAIN, 4);
            taken(y, 3, 0, 0, 1, 5);
            queue(y, wide, after);
            dueRun("what is behind a WIDE one", y, after);
            due("the WIDE one is BACK", y.about(wide, 1), CLASH);
            MergeLine z = empty();
            int a = put(z, WIDE, 3), b = put(z, URGENT, 3), c = put(z, WIDE, 3);
            taken(z, 3, 0, 0, 1, 5);
            queue(z, a, b, c);
            due("all go BACK", z.go(1), 0);
            due("all are BACK", stands(z), "5554");
            MergeLine w = empty();
            int one = put(w, PLAIN, 3), two = put(w, WIDE, 4), three = put(w, PLAIN, 5);
            taken(w, 3, 0, 0, 1, 5);
            queue(w, one, two, three);
            dueRun("the PLAIN one ahead goes BACK: the WIDE one is the first then", w, two);
            due("what they are", stands(w), "5414");
            MergeLine v = empty();
            int p = put(v, URGENT, 3), q = put(v, PLAIN, 4);
            v.pair(p, q);
            taken(v, 4, 0, 0, 1, 5);
            queue(v, q, p);
            due("an URGENT PAIR", v.go(1), 0);
            due("both are BACK", stands(v), "554");
        });
    }

    // ---- the promises

    static void promises() {
        sentence("queue: A CHANGE comes behind THE LINE: its place. BAD; STATE: it is or was there; it has no EDITS", () -> {
            MergeLine x = made(0, 0, 0, 0);
            dueRange("CHANGE", 0, 3, i -> made(0, 0, 0, 0).queue(i));
            due("place", x.queue(2), 0);
            due("place", x.queue(0), 1);
            due("THE LINE", theLine(x), "2 0");
            due("it is there", x.queue(2), STATE);
            x.leave(2);
            due("it was there", x.queue(2), STATE);
            due("the place behind those that are left", x.queue(3), 1);
            x.go(1);
            due("it was TAKEN", x.queue(0), STATE);
            due("the first place again", x.queue(1), 0);
            int none = x.change(PLAIN);
            due("no EDITS", x.queue(none), STATE);
            x.edit(none, 7, 0, 0, 1, 5);
            due("one EDIT", x.queue(none), 1);
            ban(x, 6);
            int fails = waiting(x, PLAIN, 6);
            x.go(2);
            due("it is in a ROW", x.about(fails, 1) * 10 + x.queue(fails), 10 * IN_ROW + STATE);
            x.go(10);
            due("it was there, and FAILS", x.about(fails, 1) * 10 + x.queue(fails), 10 * FAILS + STATE);
            MergeLine y = empty();
            for (int i = 0; i < 60; i++) due("place", waitingPlace(y, i), i);
            due("60 CHANGES are in THE LINE", y.inLine(59) * 100 + y.count(3), 5960);
        });
        sentence("leave: A CHANGE that is in THE LINE leaves it, for good (GONE): 1. BAD; STATE", () -> {
            MergeLine x = inLine(0, 0, 0, 0);
            int making = put(x, PLAIN, 5);
            dueRange("CHANGE", 0, 3, i -> inLine(0, 0, 0, 0).leave(i));
            due("being made", x.leave(making), STATE);
            due("in THE LINE", x.leave(1), 1);
            due("THE LINE", theLine(x), "0 2 3");
            due("GONE", stands(x), "17110");
            due("once", x.leave(1), STATE);
            due("for good", x.queue(1), STATE);
            x.go(1);
            due("TAKEN", x.leave(0), STATE);
            ban(x, 6);
            int fails = waiting(x, PLAIN, 6);
            x.go(2);
            due("BACK with FAILS", x.about(fails, 1) * 10 + x.leave(fails), 10 * FAILS + STATE);
            int row = waiting(x, PLAIN, 6);
            x.go(1);
            due("in a ROW", x.leave(row), 1);
            due("GONE", x.about(row, 1), GONE);
            due("no RUN", x.go(1), 0);
            due("it is GONE, not BACK", x.about(row, 1), GONE);
        });
        sentence("hand: A HAND for a HELD CHANGE, given (1) or taken (0): what it was. BAD; STATE: it is not HELD by its KIND", () -> {
            MergeLine x = made(PLAIN, URGENT, WIDE, HELD);
            for (int i = 0; i < 3; i++) due("KIND " + i, x.hand(i, true) + x.hand(i, false), STATE + STATE);
            for (int i : new int[] {-1, 4, LEAST, MOST}) due("CHANGE " + i, x.hand(i, true), BAD);
            due("given", x.hand(3, true), 0);
            due("given again", x.hand(3, true), 1);
            due("taken", x.hand(3, false), 1);
            due("taken again", x.hand(3, false), 0);
            x.hand(3, true);
            x.queue(3);
            x.go(1);
            due("one that is TAKEN", x.hand(3, false), 1);
            due("a REVERT of a HELD one", x.hand(x.revert(3), true), STATE);
            x.pair(0, x.change(HELD));
            due("PAIRED with a HELD one", x.hand(0, true), STATE);
        });
        sentence("size: SIZE: what it was. BAD", () -> {
            MergeLine x = empty();
            due("4 at first", x.size(8), 4);
            for (int i : new int[] {0, 9, -1, LEAST, MOST}) due("SIZE " + i, x.size(i), BAD);
            due("it was", x.size(1), 8);
            due("it was", x.size(1), 1);
        });
        sentence("inLine: The CHANGE at a place of THE LINE; NONE", () -> {
            MergeLine x = inLine(0, 0, 0);
            for (int k = 0; k < 3; k++) due("place", x.inLine(k), k);
            for (int k : new int[] {-1, 3, 59, 60, LEAST, MOST}) due("no place " + k, x.inLine(k), NONE);
            x.leave(0);
            due("the first is another", x.inLine(0), 1);
            due("one less", x.inLine(2), NONE);
            ban(x, 1);
            x.go(1);
            due("those in WORK stay in THE LINE", theLine(x), "1 2");
        });
    }

    static int waitingPlace(MergeLine x, int i) {
        return x.queue(changed(x, PLAIN, i % 8, 0, 0, 1, i));
    }

    public static void main(String[] args) {
        units();
        urgent();
        wide();
        sizes();
        passing();
        clashes();
        promises();
        end();
    }
}
