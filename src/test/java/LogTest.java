import java.util.function.Consumer;
import java.util.function.Function;

/** The sentences of the promises 21 to 27: states, the log, what is kept. */
public final class LogTest extends Dues {

    static void states() {
        sentence("at: VALUE (what = 0), MARK (1) of the LINE at a place of a FILE in a STATE that was TAKEN", () -> {
            MergeLine x = code();
            taken(x, 0, 1, 2, 1, 50);
            taken(x, 1, 0, 0, 1, 60);
            due("VALUES of STATE 0", values(x, 0, 0) + "/" + values(x, 0, 1), "10 20 30 40/1001 2001");
            due("VALUES of STATE 1", values(x, 1, 0) + "/" + values(x, 1, 1), "10 50 40/1001 2001");
            due("VALUES of STATE 2", values(x, 2, 0) + "/" + values(x, 2, 1), "10 50 40/60 1001 2001");
            due("MARKS of STATE 0", marks(x, 0, 0) + "/" + marks(x, 0, 1), "1 2 3 4/5 6");
            due("MARKS of STATE 1", marks(x, 1, 0) + "/" + marks(x, 1, 1), "1 8 4/5 6");
            due("MARKS of STATE 2", marks(x, 2, 0) + "/" + marks(x, 2, 1), "1 8 4/9 5 6");
        });
        sentence("at: NONE: there are not so many", () -> {
            MergeLine x = code();
            taken(x, 0, 0, 1, 0, 0);
            for (int what = 0; what < 2; what++) {
                due("the last of STATE 0", x.at(0, 0, 3, what), what == 0 ? 40 : 4);
                due("behind the last of STATE 0", x.at(0, 0, 4, what), NONE);
                due("behind the last of STATE 1", x.at(1, 0, 3, what), NONE);
                due("of a FILE without LINES", x.at(1, 7, 0, what), NONE);
                for (int i : new int[] {23, 24, 25, MOST, -1, LEAST}) due("place " + i, x.at(0, 0, i, what), NONE);
            }
            MergeLine y = counting(24);
            y.line(1, 5);
            due("of a full FILE", y.at(0, 0, 23, 0), 23);
            due("behind a full FILE", y.at(0, 0, 24, 0), NONE);
        });
        sentence("at: BAD: STATE, FILE, what", () -> {
            MergeLine x = code();
            taken(x, 0, 0, 1, 1, 5);
            dueRange("STATE", 0, 1, state -> x.at(state, 0, 0, 0));
            dueRange("FILE", 0, 7, file -> x.at(0, file, 0, 0));
            dueRange("what", 0, 1, what -> x.at(0, 0, 0, what));
            due("BAD ahead of NONE: STATE", x.at(2, 0, 99, 0), BAD);
            due("BAD ahead of NONE: FILE", x.at(0, 8, 99, 0), BAD);
            due("BAD ahead of NONE: what", x.at(0, 0, 99, 2), BAD);
            ban(x, 1);
            waiting(x, PLAIN, 1);
            x.go(1);
            due("a STATE on which a RUN failed was not TAKEN", x.at(2, 0, 0, 0), BAD);
        });
    }

    /** Three RUNS: 0 and 1 fail, 0 is TAKEN, 1 is BACK, 2 is TAKEN. */
    static MergeLine threeRuns() {
        MergeLine x = empty();
        ban(x, 1);
        x.size(2);
        waitingRow(x, 3);
        x.go(10);
        return x;
    }

    static void theLog() {
        sentence("log: Of RUN i of THE LOG: 0 the STATE, 1 how many CHANGES, 2 the sum, 3 the answer", () -> {
            MergeLine x = threeRuns();
            due("RUN 0", log(x, 0), "0 2 123 0");
            due("RUN 1", log(x, 1), "0 1 1 -1");
            due("RUN 2", log(x, 2), "1 1 3 -1");
        });
        sentence("log: BAD: what; NONE: there are not so many. (An answer NONE is NONE.)", () -> {
            MergeLine x = threeRuns();
            dueRange("what", 0, 3, what -> x.log(0, what));
            for (int i : new int[] {3, 4, 599, 600, MOST, -1, LEAST}) {
                for (int what = 0; what < 4; what++) due("RUN " + i, x.log(i, what), NONE);
                due("BAD ahead of NONE", x.log(i, 4), BAD);
            }
            due("the answer NONE", x.log(2, 3), NONE);
            due("no RUN at all", empty().log(0, 0), NONE);
            due("no RUN at all, BAD", empty().log(0, -1), BAD);
        });
        sentence("alter: What log() tells is altered: xor a mask (not 0): what it is then. BAD: RUN, what, mask", () -> {
            MergeLine x = threeRuns();
            dueRange("RUN", 0, 2, run -> threeRuns().alter(run, 1, 64));
            dueRange("what", 0, 3, what -> threeRuns().alter(0, what, 64));
            for (int run = 0; run < 3; run++) {
                for (int what = 0; what < 4; what++) due("mask 0", x.alter(run, what, 0), BAD);
            }
            due("nothing was altered", x.check(), NONE);
            due("STATE", x.alter(2, 0, 5), 4);
            due("CHANGES", x.alter(2, 1, LEAST), LEAST + 1);
            due("sum", x.alter(2, 2, MOST), MOST - 3);
            due("answer NONE", x.alter(2, 3, -1), 0);
            due("as it is told", log(x, 2), "4 " + (LEAST + 1) + " " + (MOST - 3) + " 0");
            due("the others", log(x, 0) + "/" + log(x, 1), "0 2 123 0/0 1 1 -1");
            due("altered again", x.alter(2, 0, 7), 3);
            due("no RUN", empty().alter(0, 0, 1), BAD);
        });
        sentence("alter: (Only THE LOG: nothing else asks it but check().)", () -> {
            MergeLine x = threeRuns(), y = threeRuns();
            waitingRow(x, 2);
            waitingRow(y, 2);
            x.go(1);
            y.go(1);
            for (int run = 0; run < 4; run++) for (int what = 0; what < 4; what++) x.alter(run, what, 3);
            due("what is told but THE LOG", withoutLog(x), withoutLog(y));
            due("RUNS", x.go(10), y.go(10));
            due("what is told then", withoutLog(x), withoutLog(y));
            due("the RUNS since then", log(x, 4) + "/" + log(x, 5), log(y, 4) + "/" + log(y, 5));
        });
        sentence("check: The first RUN of which THE LOG tells something else than there was; NONE", () -> {
            due("no RUN", empty().check(), NONE);
            MergeLine x = threeRuns();
            due("as it was", x.check(), NONE);
            for (int what = 0; what < 4; what++) {
                for (int run = 2; run >= 0; run--) {
                    x.alter(run, what, 1 << what);
                    due("RUN " + run + ", what " + what, x.check(), run);
                }
                for (int run = 0; run < 3; run++) {
                    x.alter(run, what, 1 << what);
                    due("back at RUN " + run, x.check(), run == 2 ? NONE : run + 1);
                }
            }
            x.alter(1, 0, 1);
            x.alter(1, 0, 2);
            due("altered twice", x.check(), 1);
            x.alter(1, 1, 3);
            x.alter(1, 0, 3);
            due("one of two is back", x.check(), 1);
            waiting(x, PLAIN, 7);
            x.go(1);
            due("a RUN more", x.check(), 1);
            x.alter(1, 1, 3);
            due("all is back", x.check(), NONE);
        });
    }

    private static String withoutLog(MergeLine x) {
        return everything(x).replaceAll("\nrun [^\n]*", "").replaceAll("/[-0-9]+$", "");
    }

    // ---- what is kept

    /** What a change of one kind does is undone by goBack(), whatever is asked for then. */
    static void dueBack(String what, Consumer<MergeLine> ahead, Consumer<MergeLine> between, Function<MergeLine, String> then) {
        MergeLine x = code(), y = code();
        ahead.accept(x);
        ahead.accept(y);
        due(what + ": keep", x.keep(), 1);
        String was = everything(x);
        for (int turn = 0; turn < 3; turn++) {
            between.accept(x);
            due(what + ": goBack", x.goBack(), 1);
            due(what + ": all as it was kept", everything(x), was);
        }
        due(what + ": and goes on so", then.apply(x) + everything(x), then.apply(y) + everything(y));
    }

    static String allRuns(MergeLine x) {
        StringBuilder all = new StringBuilder();
        for (int i = 0; i < 12; i++) all.append(x.go(1)).append(' ').append(work(x)).append('/').append(stands(x)).append('\n');
        return all.toString();
    }

    static void kept() {
        sentence("goBack: STATE: nothing was kept", () -> {
            MergeLine x = code();
            due("new", x.goBack(), STATE);
            taken(x, 0, 0, 1, 1, 5);
            due("later", x.goBack(), STATE);
            due("nothing is changed", x.count(6), 1);
            x.keep();
            due("now", x.goBack(), 1);
            MergeLine y = new MergeLine(1);
            due("a new one can be kept", y.keep() + y.goBack(), 2);
        });
        sentence("keep: All is kept, in place of what was kept ahead", () -> {
            MergeLine x = code();
            x.keep();
            taken(x, 0, 0, 1, 1, 5);
            String second = everything(x);
            due("keep", x.keep(), 1);
            taken(x, 1, 0, 1, 1, 5);
            due("goBack", x.goBack(), 1);
            due("to the second", everything(x), second);
            due("again", x.goBack(), 1);
            due("the first is kept no more", everything(x), second);
        });
        sentence("keep: (THE LOG as it is, too)", () -> {
            MergeLine x = threeRuns();
            x.alter(1, 2, 8);
            x.keep();
            x.alter(1, 2, 8);
            x.alter(0, 0, 1);
            due("altered otherwise", x.check(), 0);
            x.goBack();
            due("as it was altered", log(x, 1), "0 1 9 -1");
            due("check", x.check(), 1);
            due("RUN 0", log(x, 0), "0 2 123 0");
            x.alter(1, 2, 8);
            due("what there was is known still", x.check(), NONE);
            waitingRow(x, 1);
            x.go(1);
            x.alter(3, 0, 1);
            x.goBack();
            waiting(x, PLAIN, 5);
            x.go(1);
            x.alter(1, 2, 8);
            due("the RUN that came in place of another one", x.check(), NONE);
        });
        sentence("goBack: All is as it was kept, but that it stays kept", () -> {
            MergeLine x = code();
            x.keep();
            String was = everything(x);
            for (int turn = 0; turn < 3; turn++) {
                taken(x, turn, 0, 0, 1, 5);
                due("goBack", x.goBack(), 1);
                due("turn " + turn, everything(x), was);
            }
            due("twice", x.goBack(), 1);
            due("is as once", everything(x), was);
        });
        sentence("All: LINES that line() made", () ->
            dueBack("line", x -> { }, x -> lines(x, 0, 50, 60), x -> x.line(0, 70) + " "));
        sentence("All: TESTS, ODDS, m and h", () -> {
            dueBack("test", x -> ban(x, 5), x -> x.test(SUM, 1, 10, 3), x -> x.test(RISING, 3, 0, 0) + " " + waiting(x, PLAIN, 5) + allRuns(x));
            dueBack("odds", x -> x.odds(x.test(LONG, 0, 0, 24), 300), x -> x.odds(0, 999), x -> waiting(x, PLAIN, 0) + allRuns(x));
            dueBack("odds of a TEST made later", x -> { }, x -> x.odds(ban(x, 1), 999), x -> x.test(LONG, 0, 0, 24) + waiting(x, PLAIN, 0) + allRuns(x));
            dueBack("m", x -> {
                x.odds(x.test(LONG, 0, 0, 24), 999);
                x.tries(9, 1);
            }, x -> x.tries(1, 1), x -> waiting(x, PLAIN, 0) + allRuns(x));
            dueBack("h", x -> {
                x.odds(x.test(LONG, 0, 0, 24), 1);
                x.tries(9, 9);
            }, x -> x.tries(9, 1), x -> waiting(x, PLAIN, 0) + allRuns(x));
            dueBack("z", x -> {
                x.odds(x.test(GIVEN, 5, 0, 0), 500);
                x.size(1);
            }, x -> {
                queued(x, PLAIN, 0, 0, 0, 1, 1005);
                x.go(10);
            }, x -> {
                for (int file = 0; file < 8; file++) queued(x, PLAIN, file, 0, 0, 1, 1005);
                return allRuns(x);
            });
        });
        sentence("All: CHANGES and EDITS", () -> {
            dueBack("change", x -> put(x, WIDE, 0), x -> {
                put(x, HELD, 1);
                x.hand(1, true);
            }, x -> x.change(HELD) + " " + x.hand(1, false) + x.edit(1, 0, 0, 1, 1, 5));
            dueBack("edit", x -> put(x, PLAIN, 0), x -> x.edit(0, 1, 0, 1, 4, 1003), x -> x.edit(0, 1, 1, 1, 2, 60) + x.edit(0, 2, 0, 1, 1, 5) + " ");
            dueBack("pair", x -> {
                put(x, PLAIN, 0);
                put(x, PLAIN, 1);
            }, x -> x.pair(0, 1), x -> x.pair(1, x.change(PLAIN)) + " ");
            dueBack("revert", x -> taken(x, 0, 0, 1, 1, 5), x -> x.revert(0), x -> x.change(PLAIN) + x.edit(1, 0, 0, 0, 1, 7) + " ");
            dueBack("hand", x -> {
                put(x, HELD, 0);
                x.hand(0, true);
            }, x -> x.hand(0, false), x -> x.hand(0, false) + " ");
        });
        sentence("All: THE LINE, SIZE", () -> {
            dueBack("queue", x -> {
                for (int i = 0; i < 4; i++) put(x, PLAIN, i);
                x.queue(3);
            }, x -> {
                x.queue(1);
                x.queue(0);
            }, x -> x.queue(2) + " " + x.queue(1) + allRuns(x));
            dueBack("leave", x -> waitingRow(x, 4), x -> x.leave(1), LogTest::allRuns);
            dueBack("size", x -> {
                waitingRow(x, 7);
                x.size(3);
            }, x -> x.size(6), x -> allRuns(x) + x.size(1));
            dueBack("CLASH", x -> {
                put(x, PLAIN, 3);
                taken(x, 3, 0, 0, 1, 5);
            }, x -> {
                x.queue(0);
                x.go(1);
            }, x -> x.queue(0) + allRuns(x));
        });
        sentence("All: WORK, at each of its steps", () -> {
            for (int steps = 0; steps < 12; steps++) {
                int done = steps;
                Consumer<MergeLine> ahead = x -> {
                    ban(x, 3);
                    ban(x, 6);
                    x.size(8);
                    for (int i = 0; i < 8; i++) put(x, PLAIN, i);
                    if (done % 2 == 1) {
                        x.pair(6, 0);
                        x.pair(2, 3);
                    }
                    for (int i = 0; i < 8; i++) x.queue(i);
                    for (int i = 0; i < done; i++) x.go(1);
                };
                for (int more = 1; more < 8; more++) {
                    int on = more;
                    dueBack("WORK after " + steps, ahead, x -> x.go(on), LogTest::allRuns);
                }
                dueBack("WORK after " + steps + ", other RUNS", ahead, x -> {
                    x.odds(0, 999);
                    x.odds(1, 999);
                    x.leave(4);
                    waiting(x, URGENT, 5);
                    x.go(10);
                }, LogTest::allRuns);
                dueBack("WORK after " + steps + ", another ROW", ahead, x -> {
                    for (int i = 0; i < 8; i++) x.leave(i);
                    x.go(10);
                    x.test(LONG, 4, 0, 0);
                    x.odds(2, 999);
                    for (int i = 0; i < 8; i++) changed(x, PLAIN, i, 0, 0, 1, 5);
                    x.pair(8, 9);
                    for (int i = 8; i < 16; i++) x.queue(i);
                    x.go(3);
                }, LogTest::allRuns);
            }
        });
        sentence("All: STATES, MARKS made, tries of TESTS", () -> {
            dueBack("STATES", x -> taken(x, 0, 0, 1, 1, 5), x -> {
                taken(x, 0, 1, 3, 4, 50);
                taken(x, 5, 0, 0, 4, 60);
            }, x -> taken(x, 5, 0, 0, 2, 80) + values(x, 2, 5) + marks(x, 2, 5));
            dueBack("tries", x -> x.test(LONG, 0, 0, 24), x -> taken(x, 0, 0, 0, 1, 5), x -> taken(x, 0, 0, 0, 2, 6) + " ");
        });
    }

    static void counting() {
        sentence("count: 0 LINES of all FILES in the latest STATE .. 9 tries of TESTS", () -> {
            MergeLine x = code();
            due("LINES, MARKS", counts(x), "7 0 0 0 0 0 0 0 7 0");
            ban(x, 3);
            ban(x, 4);
            due("TESTS", counts(x), "7 2 0 0 0 0 0 0 7 0");
            x.odds(0, 999);
            x.tries(9, 9);
            put(x, PLAIN, 0);
            x.edit(0, 1, 0, 2, 1, 5);
            waiting(x, PLAIN, 3);
            waiting(x, PLAIN, 4);
            due("CHANGES, THE LINE", counts(x), "7 2 3 2 0 0 0 0 11 0");
            x.go(1);
            due("WORK, ROWS, RUNS, tries", counts(x), "7 2 3 2 2 1 0 1 11 1");
            x.go(1);
            due("ROWS", counts(x), "7 2 3 2 2 2 0 2 11 2");
            x.go(1);
            due("1 is BACK, 2 has failed", counts(x), "7 2 3 1 1 1 0 3 11 3");
            x.go(1);
            due("WORK is done", counts(x), "7 2 3 0 0 0 0 3 11 3");
            x.queue(0);
            x.go(1);
            due("STATES, and LINES of the latest one", counts(x), "7 2 3 0 0 0 1 4 11 3");
        });
        sentence("count: 4 CHANGES in WORK, 5 ROWS of WORK", () -> {
            MergeLine x = empty();
            ban(x, 0);
            for (int i = 0; i < 6; i++) put(x, PLAIN, i);
            x.pair(1, 4);
            x.pair(2, 5);
            for (int i = 0; i < 6; i++) x.queue(i);
            x.go(1);
            due("two PAIRS and two others", x.count(4) + "/" + x.count(5), "6/1");
            x.go(1);
            due("halves", x.count(4) + "/" + x.count(5), "6/2");
            x.go(1);
            due("and their halves", x.count(4) + "/" + x.count(5), "6/3");
            x.leave(3);
            due("one that is GONE is in its ROW till go() looks at that", x.count(3) + "/" + x.count(4) + "/" + x.count(5), "5/6/3");
        });
        sentence("count: BAD", () -> {
            MergeLine x = code();
            for (int what : new int[] {-1, 10, 11, LEAST, MOST}) due("what " + what, x.count(what), BAD);
        });
    }

    public static void main(String[] args) {
        states();
        theLog();
        kept();
        counting();
        end();
    }
}
