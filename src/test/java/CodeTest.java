/** The sentences of part 1, CODE, and of the promises 1 to 6 that name a boundary case. */
public final class CodeTest extends Dues {

    static void files() {
        sentence("FILES 0 .. 7 are rows of LINES", () -> {
            dueRange("FILE", 0, 7, file -> empty().line(file, 5));
            MergeLine x = empty();
            for (int file = 0; file < 8; file++) x.line(file, 10 + file);
            for (int file = 0; file < 8; file++) due("FILE " + file, values(x, 0, file), "" + (10 + file));
        });
        sentence("24 at most each", () -> {
            MergeLine x = empty();
            for (int i = 0; i < 24; i++) {
                for (int file = 0; file < 8; file++) due("LINE " + i, x.line(file, i), i * 8 + file + 1);
            }
            for (int file = 0; file < 8; file++) due("LINE 25 of FILE " + file, x.line(file, 0), FULL);
            due("LINES", x.count(0), 192);
            due("the last one", x.at(0, 7, 23, 1), 192);
        });
        sentence("A LINE has a VALUE (0 .. 9999)", () -> {
            dueRange("VALUE", 0, 9999, value -> empty().line(0, value));
            MergeLine x = empty();
            lines(x, 0, 0, 9999);
            due("VALUES", values(x, 0, 0), "0 9999");
        });
    }

    static void marks() {
        sentence("a MARK, which no other LINE ever gets", () -> {
            MergeLine x = code();
            ban(x, 6);
            int[] used = new int[3];
            used[0] = put(x, PLAIN, 5);
            used[1] = waiting(x, PLAIN, 6);
            used[2] = waiting(x, PLAIN, 7);
            x.leave(used[2]);
            x.go(10);
            due("one is being made, one is BACK, one is GONE", stands(x), "067");
            taken(x, 0, 0, 1, 0, 0);
            due("the LINE that is taken away takes its MARK with it", marks(x, 1, 0), "2 3 4");
            taken(x, 0, 0, 0, 1, 10);
            due("the same VALUE at the same place is another LINE", marks(x, 2, 0), "11 2 3 4");
            due("MARKS", x.count(8), 11);
        });
        sentence("1, 2, .. as LINES are made", () -> {
            MergeLine x = empty();
            due("the first", x.line(5, 1), 1);
            due("of another FILE", x.line(0, 1), 2);
            due("refused", x.line(0, -1), BAD);
            due("the next", x.line(5, 1), 3);
            int a = x.change(PLAIN), b = x.change(PLAIN);
            x.edit(b, 0, 1, 0, 2, 50);
            x.edit(a, 0, 0, 0, 1, 40);
            x.edit(b, 5, 0, 1, 1, 60);
            x.queue(b);
            x.go(1);
            due("as the EDITS were made", marks(x, 1, 0), "2 4 5");
            due("as the EDITS were made", marks(x, 1, 5), "7 3");
            due("those of a CHANGE that waits count", x.count(8), 7);
        });
    }

    /** Which of the names 0, 1, 30, 31 a LINE gives, and which of the TESTS KNOWN of FILE 1 hold. */
    static String given(int value) {
        MergeLine x = empty();
        x.line(0, value);
        StringBuilder all = new StringBuilder();
        for (int name : new int[] {0, 1, 30, 31}) all.append(x.holds(x.test(GIVEN, name, 1, 0), 0));
        return all.toString();
    }

    static String known(int asks, int gives) {
        MergeLine x = empty();
        x.line(0, asks);
        x.line(7, gives);
        return "" + x.holds(x.test(KNOWN, 0, 0, 0), 0);
    }

    static void names() {
        sentence("A LINE GIVES the name VALUE - 1000, if that is 0 .. 31", () -> {
            due("999", given(999), "0000");
            due("1000", given(1000), "1000");
            due("1001", given(1001), "0100");
            due("1030", given(1030), "0010");
            due("1031", given(1031), "0001");
            due("1032", given(1032), "0000");
            due("0", given(0), "0000");
        });
        sentence("it ASKS for the name VALUE - 2000, if that is 0 .. 31", () -> {
            due("1999 asks for nothing", known(1999, 0), "1");
            due("2000 asks", known(2000, 0), "0");
            due("2000 asks for what 1000 gives", known(2000, 1000), "1");
            due("2000 does not ask for what 1001 gives", known(2000, 1001), "0");
            due("2031 asks", known(2031, 1030), "0");
            due("2031 asks for what 1031 gives", known(2031, 1031), "1");
            due("2032 asks for nothing", known(2032, 1032), "1");
        });
    }

    static int holds(MergeLine x, int kind, int a, int b, int c) {
        return x.holds(x.test(kind, a, b, c), 0);
    }

    static void kinds() {
        sentence("TESTS, 24 at most", () -> {
            MergeLine x = empty();
            for (int i = 0; i < 24; i++) due("TEST", x.test(RISING, i % 8, 0, 0), i);
            due("one more", x.test(RISING, 0, 0, 0), FULL);
            due("TESTS", x.count(1), 24);
            due("TEST 23", x.holds(23, 0), 1);
            due("TEST 24", x.holds(24, 0), BAD);
        });
        sentence("KINDS 0 SUM, 1 GIVEN, 2 KNOWN, 3 LONG, 4 RISING", () ->
            dueRange("KIND", 0, 4, kind -> empty().test(kind, 0, 1, 0)));
        sentence("0 SUM: FILE a, modulo b (1 .. 1000), c (0 .. b - 1)", () -> {
            dueRange("a", 0, 7, a -> empty().test(SUM, a, 5, 0));
            dueRange("b", 1, 1000, b -> empty().test(SUM, 0, b, 0));
            dueRange("c of 5", 0, 4, c -> empty().test(SUM, 0, 5, c));
            dueRange("c of 1", 0, 0, c -> empty().test(SUM, 0, 1, c));
            dueRange("c of 1000", 0, 999, c -> empty().test(SUM, 0, 1000, c));
        });
        sentence("the VALUES of FILE a, added up, modulo b, are c", () -> {
            MergeLine x = code();
            due("100 modulo 7", holds(x, SUM, 0, 7, 2), 1);
            due("100 modulo 7 is not 1", holds(x, SUM, 0, 7, 1), 0);
            due("100 modulo 7 is not 3", holds(x, SUM, 0, 7, 3), 0);
            due("100 modulo 100", holds(x, SUM, 0, 100, 0), 1);
            due("100 modulo 101", holds(x, SUM, 0, 101, 100), 1);
            due("modulo 1", holds(x, SUM, 0, 1, 0), 1);
            due("of no LINES", holds(x, SUM, 7, 1000, 0), 1);
            due("of no LINES", holds(x, SUM, 7, 1000, 1), 0);
            MergeLine y = empty();
            for (int i = 0; i < 24; i++) y.line(1, 9999);
            due("the most, 239976", holds(y, SUM, 1, 1000, 976), 1);
            due("of another FILE", holds(y, SUM, 0, 1000, 976), 0);
        });
        sentence("1 GIVEN: b (0 .. 9), the name a (0 .. 31)", () -> {
            dueRange("a", 0, 31, a -> empty().test(GIVEN, a, 1, 0));
            dueRange("b", 0, 9, b -> empty().test(GIVEN, 0, b, 0));
        });
        sentence("b LINES or more of all FILES give the name a", () -> {
            MergeLine x = empty();
            lines(x, 0, 1004, 7, 1004);
            lines(x, 7, 1004);
            lines(x, 3, 1005);
            due("2 of 3", holds(x, GIVEN, 4, 2, 0), 1);
            due("3 of 3", holds(x, GIVEN, 4, 3, 0), 1);
            due("4 of 3", holds(x, GIVEN, 4, 4, 0), 0);
            due("0 of 0", holds(x, GIVEN, 6, 0, 0), 1);
            due("1 of 0", holds(x, GIVEN, 6, 1, 0), 0);
            due("1 of 1", holds(x, GIVEN, 5, 1, 0), 1);
            MergeLine y = empty();
            lines(y, 2, 1000, 1000, 1000, 1000, 1000, 1000, 1000, 1000, 1000);
            due("9 of 9", holds(y, GIVEN, 0, 9, 0), 1);
        });
        sentence("2 KNOWN: each name that a LINE of FILE a asks for is given by some LINE", () -> {
            dueRange("a", 0, 7, a -> empty().test(KNOWN, a, 0, 0));
            MergeLine x = empty();
            lines(x, 0, 2003, 5, 2004);
            lines(x, 6, 1004, 1003);
            lines(x, 1, 2003, 2005, 2004);
            lines(x, 2, 2005);
            lines(x, 3, 2006, 1006);
            due("by LINES of another FILE", holds(x, KNOWN, 0, 0, 0), 1);
            due("one of three is not given", holds(x, KNOWN, 1, 0, 0), 0);
            due("the only one is not given", holds(x, KNOWN, 2, 0, 0), 0);
            due("by a LINE of the same FILE", holds(x, KNOWN, 3, 0, 0), 1);
            due("nothing is asked for", holds(x, KNOWN, 6, 0, 0), 1);
            due("a FILE without LINES", holds(x, KNOWN, 7, 0, 0), 1);
        });
        sentence("3 LONG: FILE a has b to c LINES (0 .. 24 both)", () -> {
            dueRange("a", 0, 7, a -> empty().test(LONG, a, 0, 0));
            dueRange("b", 0, 24, b -> empty().test(LONG, 0, b, 24));
            dueRange("c", 0, 24, c -> empty().test(LONG, 0, 0, c));
            MergeLine x = code();
            due("4 to 4", holds(x, LONG, 0, 4, 4), 1);
            due("3 to 5", holds(x, LONG, 0, 3, 5), 1);
            due("5 to 24", holds(x, LONG, 0, 5, 24), 0);
            due("0 to 3", holds(x, LONG, 0, 0, 3), 0);
            due("4 to 24", holds(x, LONG, 0, 4, 24), 1);
            due("0 to 4", holds(x, LONG, 0, 0, 4), 1);
            due("5 to 3, which no FILE has", holds(x, LONG, 0, 5, 3), 0);
            due("no LINES", holds(x, LONG, 7, 0, 0), 1);
            due("no LINES", holds(x, LONG, 7, 1, 24), 0);
            due("24 LINES", holds(counting(24), LONG, 0, 24, 24), 1);
        });
        sentence("4 RISING: in FILE a no LINE has a lesser VALUE than the one ahead", () -> {
            dueRange("a", 0, 7, a -> empty().test(RISING, a, 0, 0));
            MergeLine x = empty();
            lines(x, 0, 5, 5, 5);
            lines(x, 1, 5, 6, 5);
            lines(x, 2, 5);
            lines(x, 3, 1, 2, 3, 2);
            lines(x, 4, 2, 1, 2, 3);
            lines(x, 5, 1, 2, 3, 9999);
            due("the same VALUES", holds(x, RISING, 0, 0, 0), 1);
            due("the last is lesser by one", holds(x, RISING, 1, 0, 0), 0);
            due("one LINE", holds(x, RISING, 2, 0, 0), 1);
            due("the last of four is lesser", holds(x, RISING, 3, 0, 0), 0);
            due("the second of four is lesser", holds(x, RISING, 4, 0, 0), 0);
            due("all rise", holds(x, RISING, 5, 0, 0), 1);
            due("no LINE", holds(x, RISING, 6, 0, 0), 1);
        });
        sentence("c of 1, b and c of 2 and 4 are not looked at", () -> {
            MergeLine x = empty();
            lines(x, 0, 1003, 2003);
            int test = 0;
            for (int any : new int[] {-1, 0, 25, 1001, LEAST, MOST}) {
                due("c of 1", x.test(GIVEN, 3, 1, any), test++);
                due("b of 2", x.test(KNOWN, 0, any, 0), test++);
                due("c of 2", x.test(KNOWN, 0, 0, any), test++);
                due("b and c of 4", x.test(RISING, 0, any, -any), test++);
            }
            for (int i = 0; i < test; i++) due("TEST " + i + " holds", x.holds(i, 0), 1);
        });
    }

    // ---- TESTS that are SHAKY

    /** One TEST, which always holds, and a CHANGE in THE LINE that TOUCHES it. */
    static MergeLine shaky(int seed, int q, int m, int h) {
        MergeLine x = new MergeLine(seed);
        x.test(LONG, 0, 0, 24);
        x.odds(0, q);
        x.tries(m, h);
        waiting(x, PLAIN, 0);
        return x;
    }

    static void dueTries(String tries, int m, int h, int want, int answer) {
        MergeLine x = shaky(seedFor(tries), 500, m, h);
        x.go(1);
        due("tries of " + tries + " with " + m + ", " + h, x.count(9), want);
        due("whether " + tries + " with " + m + ", " + h + " holds", x.log(0, 3), answer);
    }

    /** Each draw from the SEED on is told by two numbers: with it as ODDS the TEST holds, with one more not. */
    static void dueDraws(int seed) {
        MergeLine x = shaky(seed, 0, 1, 1);
        x.go(1);
        due("without ODDS", x.about(0, 1), TAKEN);
        for (int n = 1; n <= 40; n++) {
            int draw = drawn(seed, n);
            boolean below = n % 2 == 0;
            if (draw == 0 || draw == 999) below = draw == 0;
            x.odds(0, below ? draw + 1 : draw);
            int change = waiting(x, PLAIN, 0);
            x.go(1);
            due("draw " + n + " of SEED " + seed, x.log(n, 3), below ? 0 : NONE);
            if (below) x.leave(change);
            x.go(1);
        }
    }

    static void shaking() {
        sentence("ODDS q (0 .. 999", () -> {
            MergeLine x = code();
            x.test(LONG, 0, 0, 24);
            dueRange("q", 0, 999, q -> x.odds(0, q));
        });
        sentence("(0 .. 999; 0 at first) above 0 is SHAKY", () -> {
            MergeLine x = shaky(seedFor("FH"), 0, 9, 9);
            x.test(LONG, 1, 0, 24);
            x.go(1);
            due("TEST 0 at first: one try", x.count(9), 1);
            x.odds(1, 500);
            x.tries(1, 1);
            waiting(x, PLAIN, 1);
            x.go(1);
            due("TEST 1 is the first that draws", x.log(1, 3), 1);
            MergeLine y = shaky(seedFor("FH"), 1, 9, 9);
            y.go(1);
            due("ODDS of 1: more tries", y.count(9) > 1 ? 1 : 0, 1);
            MergeLine z = shaky(seedFor("FH"), 500, 1, 1);
            z.odds(0, 0);
            z.go(1);
            due("0 again", z.log(0, 3), NONE);
            z.odds(0, 500);
            waiting(z, PLAIN, 0);
            z.go(1);
            due("and nothing was drawn", z.log(1, 3), 0);
        });
        sentence("whenever it is tried, z becomes z * 1103515245 + 12345 (32 bits, wrapping; the SEED at first)", () -> {
            for (int seed : new int[] {0, 1, -1, 12345, LEAST, MOST}) dueDraws(seed);
        });
        sentence("it fails by itself, if (z >>> 8) modulo 1000 is below q", () -> {
            // With a SEED of 0, z is 12345 first; with -1 it is 3191464396, if taken without a sign.
            for (int[] draw : new int[][] {{0, 12345 / 256 % 1000}, {-1, 12466657 % 1000}}) {
                MergeLine x = shaky(draw[0], draw[1], 1, 1), y = shaky(draw[0], draw[1] + 1, 1, 1);
                x.go(1);
                y.go(1);
                due("as much is not below", x.log(0, 3), NONE);
                due("one less is below", y.log(0, 3), 0);
            }
            MergeLine x = new MergeLine(seedFor("HHF"));
            ban(x, 0);
            x.test(LONG, 1, 0, 24);
            x.odds(0, 500);
            x.odds(1, 500);
            waiting(x, PLAIN, 0);
            x.go(2);
            waiting(x, PLAIN, 1);
            x.go(1);
            due("a TEST that does not hold draws, too: the second draw", x.log(1, 3), NONE);
            waiting(x, PLAIN, 1);
            x.go(1);
            due("the third draw", x.log(2, 3), 1);
        });
        sentence("It is tried up to m times, till h tries held, or so many failed that h cannot any more: it HOLDS, if h held", () -> {
            dueTries("H", 1, 1, 1, NONE);
            dueTries("F", 1, 1, 1, 0);
            dueTries("HFF", 3, 1, 1, NONE);
            dueTries("FFH", 3, 1, 3, NONE);
            dueTries("FFF", 3, 1, 3, 0);
            dueTries("HHH", 3, 2, 2, NONE);
            dueTries("HFH", 3, 2, 3, NONE);
            dueTries("FHH", 3, 2, 3, NONE);
            dueTries("FFH", 3, 2, 2, 0);
            dueTries("HFF", 3, 2, 3, 0);
            dueTries("FHF", 3, 2, 3, 0);
            dueTries("HHH", 3, 3, 3, NONE);
            dueTries("HHF", 3, 3, 3, 0);
            dueTries("FHH", 3, 3, 1, 0);
            dueTries("FFFFFFFFH", 9, 1, 9, NONE);
            dueTries("FFFFFFFFF", 9, 1, 9, 0);
            dueTries("HHHHHHHHH", 9, 9, 9, NONE);
            dueTries("HHHHHHHHF", 9, 9, 9, 0);
        });
        sentence("(m, h: 1, 1 at first)", () -> {
            for (String tries : new String[] {"FH", "HF"}) {
                MergeLine x = new MergeLine(seedFor(tries));
                x.test(LONG, 0, 0, 24);
                x.odds(0, 500);
                waiting(x, PLAIN, 0);
                x.go(1);
                due("tries", x.count(9), 1);
                due("answer", x.log(0, 3), tries.equals("FH") ? 0 : NONE);
            }
        });
        sentence("Another TEST is tried once", () -> {
            for (int most : new int[] {0, 24}) {
                MergeLine x = empty();
                x.test(LONG, 0, 0, most);
                x.tries(9, 5);
                waiting(x, PLAIN, 0);
                x.go(1);
                due("tries", x.count(9), 1);
                due("answer", x.log(0, 3), most == 0 ? 0 : NONE);
            }
        });
    }

    // ---- the promises

    static void promise1() {
        sentence("MergeLine: FILES are empty", () -> {
            MergeLine x = new MergeLine(9);
            for (int file = 0; file < 8; file++) due("FILE " + file, x.at(0, file, 0, 1), NONE);
            due("counts", counts(x), "0 0 0 0 0 0 0 0 0 0");
        });
    }

    static void promise2() {
        sentence("line: A LINE more at the end of a FILE: its MARK", () -> {
            MergeLine x = empty();
            lines(x, 2, 30, 10);
            lines(x, 3, 5);
            due("its MARK", x.line(2, 20), 4);
            due("VALUES", values(x, 0, 2), "30 10 20");
            due("MARKS", marks(x, 0, 2), "1 2 4");
        });
        sentence("line: STATE: there is a CHANGE", () -> {
            MergeLine x = empty();
            x.test(LONG, 0, 0, 24);
            due("a TEST is none", x.line(0, 1), 1);
            x.keep();
            x.change(PLAIN);
            due("a CHANGE without EDITS", x.line(0, 1), STATE);
            x.goBack();
            due("back where there was none", x.line(0, 1), 2);
            int gone = waiting(x, PLAIN, 0);
            x.leave(gone);
            due("one that is GONE", x.line(0, 1), STATE);
            taken(x, 1, 0, 0, 1, 5);
            due("in a later STATE", x.line(1, 1), STATE);
        });
    }

    static void promise3() {
        sentence("test: A TEST: its number", () -> {
            MergeLine x = empty();
            for (int kind = 0; kind < 5; kind++) due("TEST", x.test(kind, 0, 1, 0), kind);
        });
        sentence("test: (At any time.)", () -> {
            MergeLine x = empty();
            ban(x, 1);
            waitingRow(x, 2);
            due("with CHANGES in THE LINE", x.test(LONG, 3, 0, 0), 1);
            x.go(1);
            due("with a ROW in WORK", ban(x, 0), 2);
            x.go(1);
            due("it is tried by the next RUN", log(x, 1), run(0, 2, 0));
            due("with a STATE that was TAKEN", x.test(LONG, 4, 0, 0), 3);
        });
    }

    static void promises4to6() {
        sentence("odds: ODDS of a TEST: 1. BAD", () -> {
            MergeLine x = empty();
            due("there is no TEST", x.odds(0, 5), BAD);
            ban(x, 0);
            ban(x, 1);
            dueRange("TEST", 0, 1, test -> x.odds(test, 5));
            due("answer", x.odds(1, 7), 1);
        });
        sentence("tries: m (1 .. 9) and h (1 .. m): 1. BAD", () -> {
            dueRange("m with h = 1", 1, 9, m -> empty().tries(m, 1));
            for (int m = 1; m <= 9; m++) {
                int most = m;
                dueRange("h with m = " + m, 1, m, h -> empty().tries(most, h));
                due("answer", empty().tries(m, m), 1);
            }
        });
        sentence("holds: Whether a TEST, as if it were not SHAKY, holds", () -> {
            MergeLine x = shaky(seedFor("FFFFF"), 999, 5, 5);
            for (int i = 0; i < 5; i++) due("ODDS of 999", x.holds(0, 0), 1);
            due("that is no try", x.count(9), 0);
            MergeLine y = shaky(seedFor("HF"), 500, 1, 1);
            for (int i = 0; i < 5; i++) y.holds(0, 0);
            y.go(1);
            due("that draws nothing", y.log(0, 3), NONE);
        });
        sentence("holds: on a STATE that was TAKEN: 1, 0. BAD", () -> {
            MergeLine x = empty();
            ban(x, 0);
            x.test(LONG, 0, 1, 1);
            due("STATE 1 is not there yet", x.holds(0, 1), BAD);
            taken(x, 0, 0, 0, 1, 5);
            due("RUN that fails", x.count(6), 0);
            due("still not there", x.holds(0, 1), BAD);
            x.go(1);
            x.test(LONG, 1, 0, 0);
            MergeLine y = empty();
            taken(y, 0, 0, 0, 1, 5);
            ban(y, 0);
            y.test(LONG, 0, 1, 1);
            due("STATE 0", y.holds(0, 0) * 10 + y.holds(1, 0), 10);
            due("STATE 1", y.holds(0, 1) * 10 + y.holds(1, 1), 1);
            dueRange("STATE", 0, 1, state -> y.holds(0, state));
            dueRange("TEST", 0, 1, test -> y.holds(test, 0));
        });
    }

    public static void main(String[] args) {
        files();
        marks();
        names();
        kinds();
        shaking();
        promise1();
        promise2();
        promise3();
        promises4to6();
        end();
    }
}
