/** The sentences of part 2, CHANGES, of part 5, REVERTS, and of the promises 7 to 12. */
public final class ChangeTest extends Dues {

    static void changes() {
        sentence("CHANGES, 60 at most", () -> {
            MergeLine x = empty();
            for (int i = 0; i < 60; i++) due("CHANGE", x.change(i % 4), i);
            due("one more", x.change(PLAIN), FULL);
            due("CHANGES", x.count(2), 60);
            due("CHANGE 59", x.about(59, 0), HELD);
            due("CHANGE 59 is not TAKEN", x.about(59, 2), NONE);
            due("CHANGE 59 has not failed", x.about(59, 3), NONE);
            due("CHANGE 59 is not PAIRED", x.about(59, 5), NONE);
            due("a HAND for CHANGE 59", x.hand(59, true) + x.hand(59, false), 1);
            due("EDITS of CHANGE 59", x.edit(59, 7, 0, 0, 1, 5) + x.edit(59, 6, 0, 0, 4, 5), 3);
            due("PAIRED are 58 and 59", x.pair(59, 58) * 10000 + x.about(59, 5) * 100 + x.about(58, 5), 15859);
            due("CHANGE 60", x.about(60, 0), BAD);
        });
        sentence("CHANGES, 60 at most: REVERTS, too", () -> {
            MergeLine x = empty();
            taken(x, 0, 0, 0, 1, 5);
            for (int i = 1; i < 60; i++) due("REVERT", x.revert(0), i);
            due("one more CHANGE", x.change(PLAIN), FULL);
            due("one more REVERT", x.revert(0), FULL);
        });
        sentence("of a KIND: 0 PLAIN, 1 URGENT, 2 WIDE, 3 HELD, 4 REVERT", () -> {
            dueRange("KIND", 0, 3, kind -> empty().change(kind));
            MergeLine x = empty();
            taken(x, 0, 0, 0, 1, 5);
            for (int kind = 0; kind < 4; kind++) due("KIND", x.about(x.change(kind), 0), kind);
            due("KIND of a REVERT", x.about(x.revert(0), 0), 4);
        });
        sentence("Each has 0 to 4 EDITS", () -> {
            MergeLine x = empty();
            int change = x.change(PLAIN);
            due("none", x.about(change, 4), 0);
            for (int i = 0; i < 4; i++) due("EDIT", x.edit(change, 2 * i, 0, 0, 1, i), i + 1);
            due("EDITS", x.about(change, 4), 4);
            due("one more", x.edit(change, 1, 0, 0, 1, 5), FULL);
            due("still", x.about(change, 4), 4);
            x.queue(change);
            x.go(1);
            for (int i = 0; i < 4; i++) due("FILE", latest(x, 2 * i) + latest(x, 2 * i + 1), "" + i);
        });
        sentence("at most one to a FILE", () -> {
            MergeLine x = code();
            int a = changed(x, PLAIN, 1, 0, 1, 0, 0);
            due("another one in the FILE, elsewhere", x.edit(a, 1, 2, 0, 1, 5), STATE);
            x.edit(a, 0, 0, 0, 1, 5);
            due("in the first FILE", x.edit(a, 1, 2, 0, 1, 5), STATE);
            due("in the second FILE", x.edit(a, 0, 2, 0, 1, 5), STATE);
            due("another CHANGE's, in the same FILE", x.edit(x.change(PLAIN), 1, 2, 0, 1, 5), 1);
        });
        sentence("it takes t (0 .. 6) LINES", () -> {
            dueRange("t", 0, 6, t -> {
                MergeLine x = counting(24);
                return x.edit(x.change(PLAIN), 0, 9, t, 1, 5);
            });
            MergeLine x = counting(8);
            taken(x, 0, 1, 6, 0, 0);
            due("what six leave", values(x, 1, 0), "0 7");
        });
        sentence("and puts in their place p (0 .. 4) new ones", () -> {
            dueRange("p", 0, 4, p -> {
                MergeLine x = counting(8);
                return x.edit(x.change(PLAIN), 0, 3, 1, p, 5);
            });
            MergeLine x = counting(3);
            taken(x, 0, 1, 1, 4, 50);
            due("four for one", values(x, 1, 0), "0 50 51 52 53 2");
        });
    }

    static void bounds() {
        sentence("as many LINES, CHANGES, EDITS and MARKS as there may be", () -> {
            MergeLine x = empty();
            for (int i = 0; i < 192; i++) due("LINE", x.line(i % 8, i), i + 1);
            for (int i = 0; i < 60; i++) x.change(PLAIN);
            for (int i = 0; i < 240; i++) due("EDIT", x.edit(i % 60, i / 60 + 4, i % 20, 4, 4, 9000 + i), i / 60 + 1);
            due("MARKS", x.count(8), 1152);
            x.queue(59);
            x.go(1);
            due("the last MARKS", x.at(1, 7, 22, 0) + "/" + x.at(1, 7, 22, 1), "9242/1152");
            due("the LINE behind is as it was", x.at(1, 7, 23, 1), 192);
        });
        sentence("EDITS of a CHANGE are those of no other one", () -> {
            MergeLine x = counting(20);
            lines(x, 3, 1, 2, 3, 4, 5, 6, 7);
            lines(x, 4, 1007, 2, 3, 4, 5, 1006);
            x.test(GIVEN, 7, 0, 0);
            x.test(GIVEN, 6, 0, 0);
            int a = x.change(PLAIN), b = x.change(PLAIN), c = x.change(PLAIN);
            x.edit(b, 4, 0, 1, 0, 0);
            for (int file = 0; file < 4; file++) due("EDIT", x.edit(a, file, 0, file == 3 ? 6 : 0, file == 3 ? 0 : 1, 5), file + 1);
            x.edit(b, 5, 0, 0, 1, 5);
            x.edit(b, 6, 0, 0, 1, 5);
            x.edit(b, 0, 3, 6, 4, 5);
            x.edit(c, 4, 0, 6, 0, 0);
            due("a gives nothing", touched(x, a), "00");
            due("b takes 1007", touched(x, b), "10");
            due("c takes both", touched(x, c), "11");
            due("all FIT", x.fits(a) + x.fits(b) + x.fits(c), 3);
            x.pair(a, b);
            x.queue(a);
            x.queue(b);
            x.go(1);
            due("FILE 3", values(x, 1, 3), "7");
            due("FILE 4", values(x, 1, 4), "2 3 4 5 1006");
        });
    }

    /** Whether a CHANGE of code() FITS behind another one: each is an EDIT: a FILE, a place, t, p. */
    static int fitsBehind(int[] a, int[] other) {
        MergeLine x = code();
        int change = changed(x, PLAIN, a[0], a[1], a[2], a[3], 500);
        due("FITS its own STATE", x.fits(change), 1);
        taken(x, other[0], other[1], other[2], other[3], 600);
        due("the other one is TAKEN", x.count(6), 1);
        return x.fits(change);
    }

    static int[] e(int... edit) {
        return edit;
    }

    static void fitting() {
        sentence("FITS, if in that FILE those MARKS stand one behind the other just so: those that it takes", () -> {
            due("the one is taken", fitsBehind(e(0, 1, 1, 1), e(0, 1, 1, 0)), 0);
            due("the first of two is taken", fitsBehind(e(0, 1, 2, 1), e(0, 1, 1, 0)), 0);
            due("the last of two is taken", fitsBehind(e(0, 1, 2, 1), e(0, 2, 1, 0)), 0);
            due("one is put between two", fitsBehind(e(0, 1, 2, 1), e(0, 2, 0, 1)), 0);
            due("one is another one", fitsBehind(e(0, 1, 2, 1), e(0, 2, 1, 1)), 0);
            due("all of the FILE is another", fitsBehind(e(2, 0, 1, 1), e(2, 0, 1, 1)), 0);
            MergeLine x = code();
            int change = changed(x, PLAIN, 0, 1, 1, 1, 500);
            taken(x, 0, 1, 1, 1, 20);
            due("a LINE with the same VALUE, but another MARK", x.fits(change), 0);
        });
        sentence("that of the LINE ahead of them", () -> {
            due("it is taken", fitsBehind(e(0, 1, 1, 1), e(0, 0, 1, 0)), 0);
            due("it is another", fitsBehind(e(0, 1, 1, 1), e(0, 0, 1, 1)), 0);
            due("one is put behind it", fitsBehind(e(0, 1, 1, 1), e(0, 1, 0, 1)), 0);
            due("one is put ahead of it", fitsBehind(e(0, 1, 1, 1), e(0, 0, 0, 1)), 1);
            due("of an EDIT that takes none: it is taken", fitsBehind(e(0, 1, 0, 1), e(0, 0, 1, 0)), 0);
        });
        sentence("and of the one behind", () -> {
            due("it is taken", fitsBehind(e(0, 1, 1, 1), e(0, 2, 1, 0)), 0);
            due("it is another", fitsBehind(e(0, 1, 1, 1), e(0, 2, 1, 1)), 0);
            due("one is put ahead of it", fitsBehind(e(0, 1, 1, 1), e(0, 2, 0, 1)), 0);
            due("one is put behind it", fitsBehind(e(0, 1, 1, 1), e(0, 3, 0, 1)), 1);
            due("of an EDIT that takes none: it is taken", fitsBehind(e(0, 1, 0, 1), e(0, 1, 1, 0)), 0);
            due("the one behind that is taken", fitsBehind(e(0, 1, 1, 1), e(0, 3, 1, 0)), 1);
        });
        sentence("(0 where there is none) and 0 at the beginning, the end", () -> {
            due("beginning: one is put ahead", fitsBehind(e(0, 0, 0, 1), e(0, 0, 0, 1)), 0);
            due("beginning, with a LINE taken: one is put ahead", fitsBehind(e(0, 0, 1, 0), e(0, 0, 0, 1)), 0);
            due("beginning: far behind", fitsBehind(e(0, 0, 1, 0), e(0, 4, 0, 1)), 1);
            due("end: one is put behind", fitsBehind(e(0, 4, 0, 1), e(0, 4, 0, 1)), 0);
            due("end, with a LINE taken: one is put behind", fitsBehind(e(0, 3, 1, 0), e(0, 4, 0, 1)), 0);
            due("end: far ahead", fitsBehind(e(0, 3, 1, 0), e(0, 0, 0, 1)), 1);
            due("second: the first is taken, the beginning is no LINE", fitsBehind(e(0, 1, 1, 0), e(0, 0, 1, 0)), 0);
            due("last but one: the last is taken", fitsBehind(e(0, 2, 1, 0), e(0, 3, 1, 0)), 0);
            due("no LINES: there are some", fitsBehind(e(3, 0, 0, 1), e(3, 0, 0, 1)), 0);
            due("the whole FILE: one is put ahead", fitsBehind(e(1, 0, 2, 1), e(1, 0, 0, 1)), 0);
            due("the whole FILE: one is put behind", fitsBehind(e(1, 0, 2, 1), e(1, 2, 0, 1)), 0);
            due("some LINES: there are none", fitsBehind(e(2, 0, 0, 1), e(2, 0, 1, 0)), 0);
            due("another FILE", fitsBehind(e(0, 0, 4, 4), e(1, 0, 2, 4)), 1);
        });
        sentence("and the FILE has at most 24 LINES then", () -> {
            for (int more = 0; more <= 4; more++) {
                MergeLine x = counting(20);
                int four = changed(x, PLAIN, 0, 20, 0, 4, 50);
                int swap = changed(x, PLAIN, 0, 10, 3, 4, 60);
                if (more > 0) taken(x, 0, 0, 0, more, 70);
                due("four more than " + (20 + more), x.fits(four), more == 0 ? 1 : 0);
                due("four for three of " + (20 + more), x.fits(swap), more < 4 ? 1 : 0);
                x.queue(more == 0 ? four : swap);
                x.go(1);
                due("as many are there then", x.count(0), more == 0 ? 24 : more < 4 ? 21 + more : 24);
            }
            MergeLine full = counting(24);
            due("four for four of 24", full.fits(changed(full, PLAIN, 0, 3, 4, 4, 50)), 1);
        });
        sentence("A CHANGE FITS, if all its EDITS do", () -> {
            for (int file = 0; file < 4; file++) {
                MergeLine x = empty();
                int change = x.change(PLAIN);
                for (int i = 0; i < 4; i++) x.edit(change, i, 0, 0, 1, 5);
                due("all", x.fits(change), 1);
                taken(x, file, 0, 0, 1, 6);
                due("all but that of FILE " + file, x.fits(change), 0);
                x.queue(change);
                due("no RUN", x.go(1), 0);
                due("none of it is done", x.count(0), 1);
            }
            MergeLine x = empty();
            due("none at all", x.fits(x.change(PLAIN)), 1);
        });
        sentence("Then it comes to the STATE with all of them done", () -> {
            MergeLine x = code();
            int change = changed(x, PLAIN, 2, 1, 0, 2, 50);
            x.edit(change, 0, 1, 2, 1, 60);
            x.edit(change, 1, 0, 2, 0, 0);
            x.edit(change, 7, 0, 0, 4, 70);
            x.queue(change);
            x.go(1);
            due("FILE 0", values(x, 1, 0) + "/" + marks(x, 1, 0), "10 60 40/1 10 4");
            due("FILE 1", values(x, 1, 1), "");
            due("FILE 2", values(x, 1, 2) + "/" + marks(x, 1, 2), "7 50 51/7 8 9");
            due("FILE 7", values(x, 1, 7) + "/" + marks(x, 1, 7), "70 71 72 73/11 12 13 14");
        });
    }

    static void touching() {
        sentence("TOUCHED: TESTS of KINDS 0, 3, 4 of its FILES", () -> {
            MergeLine x = empty();
            for (int file = 0; file < 8; file++) {
                x.test(SUM, file, 5, 0);
                x.test(LONG, file, 0, 24);
                x.test(RISING, file, 0, 0);
            }
            put(x, PLAIN, 6);
            int change = x.change(PLAIN);
            due("without EDITS", touched(x, change), "000000000000000000000000");
            x.edit(change, 5, 0, 0, 1, 5);
            due("one", touched(x, change), "000000000000000111000000");
            x.edit(change, 7, 0, 0, 1, 5);
            due("two", touched(x, change), "000000000000000111000111");
            x.edit(change, 0, 0, 0, 1, 5);
            x.edit(change, 2, 0, 0, 1, 5);
            due("four", touched(x, change), "111000111000000111000111");
        });
        sentence("those of KIND 1, of whose name a LINE that it takes or puts gives", () -> {
            MergeLine x = empty();
            lines(x, 0, 1000, 1001, 1002, 5, 1031);
            lines(x, 1, 2003);
            for (int name : new int[] {0, 1, 2, 3, 4, 31}) x.test(GIVEN, name, 1, 0);
            due("takes 1001", touched(x, changed(x, PLAIN, 0, 1, 1, 0, 0)), "010000");
            due("takes 1000 to 1031", touched(x, changed(x, PLAIN, 0, 0, 5, 0, 0)), "111001");
            due("takes 5", touched(x, changed(x, PLAIN, 0, 3, 1, 0, 0)), "000000");
            due("puts between 1000 and 1001", touched(x, changed(x, PLAIN, 0, 1, 0, 1, 7)), "000000");
            due("puts 1003, 1004", touched(x, changed(x, PLAIN, 5, 0, 0, 2, 1003)), "000110");
            due("puts 999, 1000", touched(x, changed(x, PLAIN, 5, 0, 0, 2, 999)), "100000");
            due("puts 1031, 1032", touched(x, changed(x, PLAIN, 5, 0, 0, 2, 1031)), "000001");
            due("takes 1002, puts 1001", touched(x, changed(x, PLAIN, 0, 2, 1, 1, 1001)), "011000");
            due("takes 2003, which asks", touched(x, changed(x, PLAIN, 1, 0, 1, 0, 0)), "000000");
            due("FILE 4 is not name 4", touched(x, changed(x, PLAIN, 4, 0, 0, 1, 7)), "000000");
            int two = changed(x, PLAIN, 6, 0, 0, 1, 7);
            x.edit(two, 7, 0, 0, 4, 1001);
            due("the second EDIT puts 1001 to 1004", touched(x, two), "011110");
        });
        sentence("those of KIND 2 of its FILES, and, if it takes or puts a LINE that gives, all of KIND 2", () -> {
            MergeLine x = empty();
            lines(x, 0, 1000, 5, 1031);
            lines(x, 1, 2003);
            for (int file = 0; file < 4; file++) x.test(KNOWN, file, 0, 0);
            due("of FILE 1", touched(x, changed(x, PLAIN, 1, 0, 1, 1, 2004)), "0100");
            due("of a FILE without such a TEST", touched(x, changed(x, PLAIN, 5, 0, 0, 1, 2004)), "0000");
            due("takes 1000", touched(x, changed(x, PLAIN, 0, 0, 1, 0, 0)), "1111");
            due("takes 5", touched(x, changed(x, PLAIN, 0, 1, 1, 0, 0)), "1000");
            due("takes 1031", touched(x, changed(x, PLAIN, 0, 2, 1, 0, 0)), "1111");
            due("puts 1000", touched(x, changed(x, PLAIN, 5, 0, 0, 1, 1000)), "1111");
            due("puts 999", touched(x, changed(x, PLAIN, 5, 0, 0, 1, 999)), "0000");
            due("puts 1031", touched(x, changed(x, PLAIN, 5, 0, 0, 1, 1031)), "1111");
            due("puts 1032", touched(x, changed(x, PLAIN, 5, 0, 0, 1, 1032)), "0000");
            due("takes 5, puts 1004", touched(x, changed(x, PLAIN, 0, 1, 1, 1, 1004)), "1111");
        });
    }

    static void states() {
        sentence("STATES that were TAKEN are numbered from 0 on; STATE 0 is what line() made", () -> {
            MergeLine x = code();
            for (int state = 1; state <= 60; state++) {
                due("the latest one", x.count(6), state - 1);
                due("TAKEN with it", x.about(taken(x, 0, 0, 1, 1, 100 + state), 2), state);
            }
            due("STATE 0", values(x, 0, 0), "10 20 30 40");
            for (int state = 1; state <= 60; state++) due("STATE " + state, values(x, state, 0), 100 + state + " 20 30 40");
        });
        sentence("A CHANGE is made on the latest one, its EDITS, too", () -> {
            MergeLine x = code();
            taken(x, 0, 1, 2, 0, 0);
            int change = changed(x, PLAIN, 0, 1, 1, 1, 5);
            due("the LINE at place 1 is that of STATE 1", x.fits(change), 1);
            x.queue(change);
            x.go(1);
            due("FILE 0", values(x, 2, 0), "10 5");
        });
        sentence("EDITS may be made until it comes into THE LINE", () -> {
            MergeLine x = code();
            int change = put(x, PLAIN, 3);
            due("being made", x.edit(change, 4, 0, 0, 1, 5), 2);
            x.queue(change);
            due("in THE LINE", x.edit(change, 5, 0, 0, 1, 5), STATE);
            x.leave(change);
            due("GONE", x.edit(change, 5, 0, 0, 1, 5), STATE);
        });
        sentence("as long as that is the latest STATE", () -> {
            MergeLine x = code();
            int one = put(x, PLAIN, 3), none = x.change(PLAIN);
            ban(x, 6);
            waiting(x, PLAIN, 6);
            x.go(1);
            due("a RUN that fails makes no STATE", x.edit(one, 5, 0, 0, 1, 5), 2);
            x.go(1);
            x.keep();
            taken(x, 2, 0, 1, 1, 8);
            due("with an EDIT, another STATE", x.edit(one, 4, 0, 0, 1, 5), STATE);
            due("without EDITS, another STATE", x.edit(none, 4, 0, 0, 1, 5), STATE);
            due("a new one", x.edit(x.change(PLAIN), 4, 0, 0, 1, 5), 1);
            x.goBack();
            due("gone back to its STATE", x.edit(none, 4, 0, 0, 1, 5), 1);
        });
    }

    // ---- part 5 and revert

    static void reverts() {
        sentence("A REVERT has for each EDIT, in order, an EDIT of the same FILE that takes what that put, and puts what that took, "
            + "with the MARKS and VALUES that these had", () -> {
                MergeLine x = counting(8);
                lines(x, 4, 1001, 2001);
                int change = changed(x, PLAIN, 0, 1, 6, 0, 0);
                x.edit(change, 6, 0, 0, 4, 1002);
                x.edit(change, 4, 0, 2, 3, 70);
                x.queue(change);
                x.go(1);
                due("done", values(x, 1, 0) + "/" + values(x, 1, 6) + "/" + values(x, 1, 4), "0 7/1002 1003 1004 1005/70 71 72");
                int back = x.revert(change);
                due("EDITS", x.about(back, 4), 3);
                due("no MARKS are made", x.count(8), 17);
                x.test(GIVEN, 1, 0, 0);
                x.test(GIVEN, 5, 0, 0);
                x.test(LONG, 6, 0, 24);
                x.test(LONG, 5, 0, 24);
                due("TOUCHED", touched(x, back), "1110");
                x.queue(back);
                x.go(1);
                for (int file = 0; file < 8; file++) {
                    due("VALUES of FILE " + file, values(x, 2, file), values(x, 0, file));
                    due("MARKS of FILE " + file, marks(x, 2, file), marks(x, 0, file));
                }
                int again = x.revert(back);
                due("a REVERT of the REVERT", x.about(again, 4), 3);
                x.queue(again);
                x.go(1);
                for (int file = 0; file < 8; file++) {
                    due("VALUES of FILE " + file, values(x, 3, file), values(x, 1, file));
                    due("MARKS of FILE " + file, marks(x, 3, file), marks(x, 1, file));
                }
            });
        sentence("with the same MARKS ahead and behind", () -> {
            for (int place : new int[] {0, 1, 2, 3}) {
                MergeLine x = code();
                int change = taken(x, 0, 1, 1, 1, 50);
                // LINES of FILE 0 are 10 50 30 40 now: one is put at a place.
                taken(x, 0, place, 0, 1, 60);
                due("one is put at " + place, x.revert(change), place == 1 || place == 2 ? STATE : 2);
            }
            MergeLine y = code();
            int last = taken(y, 0, 3, 1, 0, 0);
            int first = taken(y, 0, 0, 1, 0, 0);
            y.queue(y.revert(last));
            y.queue(y.revert(first));
            y.go(1);
            due("the beginning and the end", values(y, 3, 0), "10 20 30 40");
        });
        sentence("it is made, if it FITS the latest STATE", () -> {
            MergeLine x = counting(24);
            int six = taken(x, 0, 0, 6, 0, 0);
            int one = taken(x, 0, 18, 0, 1, 5);
            due("25 LINES", x.revert(six), STATE);
            x.queue(x.revert(one));
            x.go(1);
            due("24 LINES", x.revert(six), 3);
            MergeLine y = code();
            int change = changed(y, PLAIN, 0, 0, 1, 1, 5);
            y.edit(change, 1, 0, 1, 1, 5);
            y.queue(change);
            y.go(1);
            taken(y, 1, 0, 1, 1, 6);
            due("one of two EDITS does not", y.revert(change), STATE);
        });
        sentence("revert: STATE: that is not TAKEN", () -> {
            MergeLine x = code();
            ban(x, 6);
            int none = x.change(PLAIN);
            int same = changed(x, PLAIN, 0, 1, 1, 0, 0), other = changed(x, PLAIN, 0, 1, 1, 0, 0);
            due("being made, without EDITS", x.revert(none), STATE);
            due("being made", x.revert(same), STATE);
            taken(x, 0, 1, 1, 0, 0);
            // What these two would take out again is taken out: as EDITS their REVERTS would FIT.
            x.queue(same);
            due("in THE LINE", x.revert(same), STATE);
            x.go(1);
            due("BACK with CLASH", x.about(same, 1) * 10 + x.revert(same), 10 * CLASH + STATE);
            x.queue(other);
            x.leave(other);
            due("GONE", x.about(other, 1) * 10 + x.revert(other), 10 * GONE + STATE);
            int fails = waiting(x, PLAIN, 6);
            x.go(1);
            due("in a ROW of WORK", x.revert(fails), STATE);
            x.go(1);
            due("BACK with FAILS", x.about(fails, 1) * 10 + x.revert(fails), 10 * FAILS + STATE);
        });
    }

    // ---- the promises

    static int edit(int at, int t, int p, int v) {
        MergeLine x = code();
        return x.edit(x.change(PLAIN), 0, at, t, p, v);
    }

    static void edits() {
        sentence("change: A new CHANGE: its number. BAD; FULL", () -> {
            MergeLine x = empty();
            for (int i = 0; i < 60; i++) x.change(PLAIN);
            for (int kind : new int[] {-1, 4, LEAST, MOST}) due("BAD ahead of FULL", x.change(kind), BAD);
        });
        sentence("edit: in a FILE, from place at on, takes t LINES and puts p with VALUES v, v + 1, ..: how many EDITS", () -> {
            MergeLine x = code();
            int change = x.change(PLAIN);
            due("first", x.edit(change, 0, 1, 2, 3, 9990), 1);
            due("second", x.edit(change, 2, 1, 0, 1, 0), 2);
            x.queue(change);
            x.go(1);
            due("FILE 0", values(x, 1, 0), "10 9990 9991 9992 40");
            due("FILE 2", values(x, 1, 2), "7 0");
            dueRange("CHANGE", 0, 0, i -> {
                MergeLine y = code();
                y.change(PLAIN);
                return y.edit(i, 0, 0, 0, 1, 5);
            });
            dueRange("FILE", 0, 7, file -> {
                MergeLine y = code();
                return y.edit(y.change(PLAIN), file, 0, 0, 1, 5);
            });
        });
        sentence("edit: BAD: at, t do not lie in the FILE as it is in the latest STATE", () -> {
            for (int t = 0; t <= 6; t++) {
                for (int at = -2; at <= 7; at++) {
                    due("at " + at + ", t " + t, edit(at, t, 1, 5), at >= 0 && at + t <= 4 ? 1 : BAD);
                }
                for (int at : new int[] {LEAST, MOST, MOST - 1, MOST - 5}) due("at " + at + ", t " + t, edit(at, t, 1, 5), BAD);
            }
            MergeLine x = code();
            int old = x.change(PLAIN);
            taken(x, 0, 0, 2, 0, 0);
            due("two LINES are left, and BAD comes first", x.edit(old, 0, 0, 3, 1, 5), BAD);
            due("two LINES are left", x.edit(x.change(PLAIN), 0, 1, 2, 1, 5), BAD);
            due("both", x.edit(x.change(PLAIN), 0, 0, 2, 1, 5), 1);
            due("the end", x.edit(x.change(PLAIN), 0, 2, 0, 1, 5), 1);
            due("a FILE without LINES", x.edit(x.change(PLAIN), 5, 1, 0, 1, 5), BAD);
        });
        sentence("edit: BAD: v below 0", () -> {
            for (int v : WRONG) {
                due("v " + v, edit(0, 0, 1, v), BAD);
                due("v " + v + " and nothing put", edit(0, 1, 0, v), BAD);
            }
            due("v 0", edit(0, 0, 1, 0), 1);
        });
        sentence("edit: BAD: v + p above 9999", () -> {
            for (int p = 0; p <= 4; p++) {
                due("9999 with " + p, edit(0, 1, p, 9999 - p), 1);
                due("10000 with " + p, edit(0, 1, p, 10000 - p), BAD);
                due("far above with " + p, edit(0, 1, p, MOST - p), BAD);
                due("beyond all numbers with " + p, edit(0, 1, p, MOST), BAD);
            }
        });
        sentence("edit: BAD: nothing is taken and nothing put", () -> {
            due("nothing", edit(0, 0, 0, 0), BAD);
            due("taken alone", edit(0, 1, 0, 0), 1);
            due("put alone", edit(0, 0, 1, 0), 1);
        });
        sentence("edit: STATE: it is or was in THE LINE", () -> {
            MergeLine x = code();
            ban(x, 6);
            int clash = put(x, PLAIN, 0);
            int gone = waiting(x, PLAIN, 3);
            due("in THE LINE", x.edit(gone, 4, 0, 0, 1, 5), STATE);
            x.leave(gone);
            due("GONE", x.edit(gone, 4, 0, 0, 1, 5), STATE);
            int fails = waiting(x, PLAIN, 6);
            x.go(1);
            due("in a ROW", x.edit(fails, 4, 0, 0, 1, 5), STATE);
            x.go(1);
            due("BACK with FAILS", x.edit(fails, 4, 0, 0, 1, 5), STATE);
            int taken = taken(x, 0, 0, 0, 1, 5);
            due("TAKEN", x.edit(taken, 4, 0, 0, 1, 5), STATE);
            x.queue(clash);
            x.go(1);
            due("BACK with CLASH", x.about(clash, 1) * 10 + x.edit(clash, 4, 0, 0, 1, 5), 10 * CLASH + STATE);
        });
        sentence("edit: STATE: it is a REVERT", () -> {
            MergeLine x = code();
            int back = x.revert(taken(x, 0, 0, 0, 1, 5));
            due("of another FILE", x.edit(back, 4, 0, 0, 1, 5), STATE);
            due("of its FILE", x.edit(back, 0, 0, 0, 1, 5), STATE);
        });
        sentence("edit: FULL: four", () -> {
            MergeLine x = code();
            int change = x.change(PLAIN);
            for (int file = 0; file < 4; file++) x.edit(change, file, 0, 0, 1, 5);
            for (int file = 4; file < 8; file++) due("a fifth FILE", x.edit(change, file, 0, 0, 1, 5), FULL);
            for (int file = 0; file < 4; file++) due("STATE comes first", x.edit(change, file, 0, 0, 1, 5), STATE);
        });
        sentence("edit: FULL: the FILE would have more than 24 LINES", () -> {
            for (int t = 0; t <= 4; t++) {
                for (int p = t == 0 ? 1 : 0; p <= 4; p++) {
                    MergeLine x = counting(23);
                    due(t + " taken, " + p + " put", x.edit(x.change(PLAIN), 0, 5, t, p, 5), p - t > 1 ? FULL : 1);
                }
            }
            MergeLine x = counting(24);
            int change = x.change(PLAIN);
            due("25", x.edit(change, 0, 24, 0, 1, 5), FULL);
            due("that was none", x.about(change, 4), 0);
            due("nor were there new LINES", x.count(8), 24);
            due("another EDIT of the FILE may come", x.edit(change, 0, 24, 0, 1, 5) + x.edit(change, 0, 0, 1, 1, 5), FULL + 1);
        });
    }

    static void otherCalls() {
        sentence("revert: A REVERT: its number. BAD; STATE; FULL", () -> {
            MergeLine x = code();
            int change = taken(x, 0, 0, 0, 1, 5);
            due("number", x.revert(change), 1);
            dueRange("CHANGE", 0, 1, x::revert);
            int over = taken(x, 0, 0, 1, 1, 5);
            for (int i = x.count(2); i < 60; i++) x.change(PLAIN);
            due("STATE comes ahead of FULL", x.revert(change), STATE);
            due("FULL", x.revert(over), FULL);
            due("BAD comes ahead of FULL", x.revert(60), BAD);
        });
        sentence("pair: Two CHANGES are PAIRED: 1. BAD (also one with itself)", () -> {
            MergeLine x = code();
            for (int file = 0; file < 4; file++) put(x, PLAIN, file);
            for (int i = 0; i < 4; i++) due("with itself", x.pair(i, i), BAD);
            dueRange("first", 0, 2, i -> x.pair(i, 3) == BAD ? BAD : 0);
            dueRange("second", 1, 3, i -> x.pair(0, i) == BAD ? BAD : 0);
            MergeLine y = code();
            put(y, PLAIN, 0);
            put(y, PLAIN, 1);
            due("pair", y.pair(1, 0), 1);
            due("of each the other", y.about(0, 5) * 10 + y.about(1, 5), 10);
        });
        sentence("pair: STATE: one is or was in THE LINE", () -> {
            MergeLine x = code();
            ban(x, 6);
            int free = put(x, PLAIN, 0), clash = put(x, PLAIN, 0);
            int waits = waiting(x, HELD, 1), gone = waiting(x, PLAIN, 3);
            x.leave(gone);
            int taken = taken(x, 0, 0, 0, 1, 5);
            x.queue(clash);
            x.go(1);
            int fails = waiting(x, PLAIN, 6);
            x.go(2);
            int row = waiting(x, PLAIN, 6);
            x.go(1);
            due("what they are", stands(x), "0527463");
            for (int i : new int[] {waits, gone, taken, clash, fails, row}) {
                due("first " + i, x.pair(i, free), STATE);
                due("second " + i, x.pair(free, i), STATE);
            }
            due("a REVERT and one without EDITS may be", x.pair(x.revert(taken), x.change(WIDE)), 1);
        });
        sentence("pair: STATE: one is PAIRED", () -> {
            MergeLine x = code();
            for (int file = 0; file < 4; file++) put(x, PLAIN, file);
            x.pair(0, 1);
            due("the same", x.pair(0, 1), STATE);
            due("the same, turned", x.pair(1, 0), STATE);
            due("first", x.pair(0, 2), STATE);
            due("first", x.pair(1, 2), STATE);
            due("second", x.pair(2, 0), STATE);
            due("second", x.pair(2, 1), STATE);
            due("two others", x.pair(3, 2), 1);
            MergeLine y = code();
            int gone = put(y, PLAIN, 3), left = put(y, PLAIN, 4);
            y.pair(gone, left);
            y.queue(gone);
            y.leave(gone);
            due("with one that is GONE", y.pair(left, put(y, PLAIN, 5)), STATE);
        });
        sentence("fits: Whether a CHANGE FITS the latest STATE alone: 1, 0. BAD", () -> {
            MergeLine x = code();
            put(x, PLAIN, 0);
            waiting(x, PLAIN, 0);
            dueRange("CHANGE", 0, 1, x::fits);
            due("what is in THE LINE ahead is not looked at", x.fits(0) + x.fits(1), 2);
            x.pair(0, x.change(PLAIN));
            due("nor with which it is PAIRED", x.fits(0), 1);
        });
        sentence("touches: Whether a CHANGE TOUCHES a TEST: 1, 0. BAD", () -> {
            MergeLine x = code();
            put(x, PLAIN, 0);
            put(x, PLAIN, 1);
            ban(x, 0);
            ban(x, 1);
            dueRange("CHANGE", 0, 1, i -> x.touches(i, 0));
            dueRange("TEST", 0, 1, i -> x.touches(0, i));
            due("answers", touched(x, 0) + touched(x, 1), "1001");
        });
    }

    public static void main(String[] args) {
        changes();
        bounds();
        fitting();
        touching();
        states();
        reverts();
        edits();
        otherCalls();
        end();
    }
}
