/**
 * A merge line: CHANGES on FILES of LINES wait in a row, are run in BATCHES, and are TAKEN or sent
 * BACK. The words in capitals are those of the document.
 */
public final class MergeLine {
    public static final int NONE = -1, BAD = -2, STATE = -3, FULL = -4;

    private static final int FILES = 8, LINES = 24, TOP_VALUE = 9999;
    private static final int NAMES = 32, GIVES_FROM = 1000, ASKS_FROM = 2000, MOST_ASKED = 9;
    private static final int TESTS = 24, MOST_MODULO = 1000, MOST_ODDS = 999, MOST_TRIES = 9;
    private static final int CHANGES = 60, EDITS = 4, TAKES = 6, PUTS = 4;
    private static final int UNITS = 8, RUNS = 600, RUNS_A_CALL = 10;
    private static final int FACTS = 4;
    private static final int MARKS = FILES * LINES + CHANGES * EDITS * PUTS;

    private static final int SUM = 0, GIVEN = 1, KNOWN = 2, LONG = 3, RISING = 4;
    private static final int URGENT = 1, WIDE = 2, HELD = 3, REVERT = 4;
    private static final int IN_MAKING = 0, IN_LINE = 1, NOT_READY = 2, IN_ROW = 3, TAKEN = 4;
    private static final int CLASH = 5, FAILS = 6, GONE = 7;

    // Each TAKEN STATE takes a CHANGE at least out of THE LINE, so these places lie behind all of them.
    private static final int TRIAL = CHANGES + 1, SPARE = CHANGES + 2, SLOTS = CHANGES + 3;

    // A RUN comes after a few steps of WORK at most: this bound is far above.
    private static final int STEPS = 1000000;

    private final Hall now;
    private final Hall old;
    private boolean isKept;

    public MergeLine(int seed) {
        now = new Hall(seed);
        old = new Hall(seed);
        isKept = false;
    }

    // ---- code and tests

    public int line(int file, int value) {
        if (!isIn(file, FILES) || value < 0 || value > TOP_VALUE) return BAD;
        if (now.changes.made() > 0) return STATE;
        if (now.book.lengthOf(0, file) >= LINES) return FULL;
        int mark = now.book.newLine(value);
        now.book.append(file, mark);
        return mark;
    }

    public int test(int kind, int a, int b, int c) {
        if (!isTestAsTold(kind, a, b, c)) return BAD;
        if (now.tests.made() >= TESTS) return FULL;
        return now.tests.add(kind, a, b, c);
    }

    public int odds(int test, int q) {
        if (!isIn(test, now.tests.made()) || q < 0 || q > MOST_ODDS) return BAD;
        now.tests.setOdds(test, q);
        return 1;
    }

    public int tries(int m, int h) {
        if (m < 1 || m > MOST_TRIES || h < 1 || h > m) return BAD;
        now.tests.setTries(m, h);
        return 1;
    }

    public int holds(int test, int state) {
        if (!isIn(test, now.tests.made()) || !isTakenState(state)) return BAD;
        return asNumber(now.tests.standsOn(test, now.book, state));
    }

    // ---- changes

    public int change(int kind) {
        if (kind < 0 || kind > HELD) return BAD;
        if (now.changes.made() >= CHANGES) return FULL;
        now.changes.begin(kind, now.book.latest());
        return now.changes.finish();
    }

    public int edit(int change, int file, int at, int t, int p, int v) {
        if (!isChange(change) || !isIn(file, FILES)) return BAD;
        if (!isIn(t, TAKES + 1) || !isIn(p, PUTS + 1) || t + p == 0) return BAD;
        int length = now.book.lengthOf(now.book.latest(), file);
        if (at < 0 || at > length - t || v < 0 || v > TOP_VALUE - p) return BAD;
        if (!now.changes.isOpen(change, now.book.latest())) return STATE;
        if (now.changes.hasFile(change, file)) return STATE;
        if (now.changes.editsOf(change) >= EDITS || length - t + p > LINES) return FULL;
        int edit = now.changes.addEdit(change, file, t, p);
        now.changes.takeLines(edit, now.book, at);
        now.changes.putLines(edit, now.book, v);
        return now.changes.editsOf(change);
    }

    public int revert(int change) {
        if (!isChange(change)) return BAD;
        if (now.changes.standOf(change) != TAKEN) return STATE;
        int reverting = now.changes.begin(REVERT, now.book.latest());
        now.changes.turnEdits(change, reverting);
        if (!now.changes.fitsOn(reverting, now.book, now.book.latest())) return STATE;
        if (now.changes.made() >= CHANGES) return FULL;
        return now.changes.finish();
    }

    public int pair(int a, int b) {
        if (!isChange(a) || !isChange(b) || a == b) return BAD;
        if (!now.changes.canPair(a) || !now.changes.canPair(b)) return STATE;
        now.changes.join(a, b);
        return 1;
    }

    public int fits(int change) {
        if (!isChange(change)) return BAD;
        return asNumber(now.changes.fitsOn(change, now.book, now.book.latest()));
    }

    public int touches(int change, int test) {
        if (!isChange(change) || !isIn(test, now.tests.made())) return BAD;
        int subject = now.tests.subjectOf(test);
        return asNumber(now.changes.meets(change, now.tests.kindOf(test), subject, now.book));
    }

    // ---- the line

    public int queue(int change) {
        if (!isChange(change)) return BAD;
        if (now.changes.standOf(change) != IN_MAKING || now.changes.editsOf(change) == 0) return STATE;
        now.changes.setStand(change, IN_LINE);
        return now.lane.add(change);
    }

    public int leave(int change) {
        if (!isChange(change)) return BAD;
        if (now.changes.standOf(change) != IN_LINE) return STATE;
        now.takeOut(change, GONE);
        return 1;
    }

    public int hand(int change, boolean given) {
        if (!isChange(change)) return BAD;
        if (now.changes.kindOf(change) != HELD) return STATE;
        return now.changes.swapHand(change, asNumber(given));
    }

    public int size(int n) {
        if (n < 1 || n > UNITS) return BAD;
        return now.swapLimit(n);
    }

    public int go(int n) {
        if (n < 1 || n > RUNS_A_CALL) return BAD;
        if (now.ledger.runs() > RUNS - n) return FULL;
        int done = 0;
        for (int step = 0; step < STEPS && done < n && now.findsWork(); step++) {
            now.trimTop();
            if (now.isTopToRun()) {
                now.runTop();
                done++;
            } else {
                now.settleTop();
            }
        }
        return done;
    }

    public int about(int change, int what) {
        if (!isChange(change)) return BAD;
        switch (what) {
            case 0: return now.changes.kindOf(change);
            case 1: return now.standing(change);
            case 2: return now.changes.takenWith(change);
            case 3: return now.changes.failedBy(change);
            case 4: return now.changes.editsOf(change);
            case 5: return now.changes.partnerOf(change);
            default: return BAD;
        }
    }

    public int inLine(int k) {
        return now.lane.changeAt(k);
    }

    public int inWork(int k) {
        return now.pile.changeAt(k);
    }

    // ---- states, the log

    public int at(int state, int file, int i, int what) {
        if (!isTakenState(state) || !isIn(file, FILES) || !isIn(what, 2)) return BAD;
        if (!isIn(i, now.book.lengthOf(state, file))) return NONE;
        int mark = now.book.markAt(state, file, i);
        return what == 1 ? mark : now.book.valueOf(mark);
    }

    public int log(int i, int what) {
        if (!isIn(what, FACTS)) return BAD;
        return isIn(i, now.ledger.runs()) ? now.ledger.tell(i, what) : NONE;
    }

    public int alter(int i, int what, int mask) {
        if (!isIn(i, now.ledger.runs()) || !isIn(what, FACTS) || mask == 0) return BAD;
        return now.ledger.twist(i, what, mask);
    }

    public int check() {
        return now.ledger.firstWrong();
    }

    public int keep() {
        old.takeOver(now);
        isKept = true;
        return 1;
    }

    public int goBack() {
        if (!isKept) return STATE;
        now.takeOver(old);
        return 1;
    }

    public int count(int what) {
        switch (what) {
            case 0: return now.book.linesIn(now.book.latest());
            case 1: return now.tests.made();
            case 2: return now.changes.made();
            case 3: return now.lane.length();
            case 4: return now.pile.changeCount();
            case 5: return now.pile.rows();
            case 6: return now.book.latest();
            case 7: return now.ledger.runs();
            case 8: return now.book.marksMade();
            case 9: return now.tests.triesDone();
            default: return BAD;
        }
    }

    // ---- what the calls ask of their numbers

    private static boolean isIn(int number, int bound) {
        return number >= 0 && number < bound;
    }

    private static int asNumber(boolean is) {
        return is ? 1 : 0;
    }

    private boolean isChange(int change) {
        return isIn(change, now.changes.made());
    }

    private boolean isTakenState(int state) {
        return state >= 0 && state <= now.book.latest();
    }

    private static boolean isTestAsTold(int kind, int a, int b, int c) {
        switch (kind) {
            case SUM: return isIn(a, FILES) && b >= 1 && b <= MOST_MODULO && isIn(c, b);
            case GIVEN: return isIn(a, NAMES) && isIn(b, MOST_ASKED + 1);
            case LONG: return isIn(a, FILES) && isIn(b, LINES + 1) && isIn(c, LINES + 1);
            case KNOWN:
            case RISING: return isIn(a, FILES);
            default: return false;
        }
    }

    /** A row of numbers of a fixed length, whose places are looked at before they are used. */
    private static final class Cells {
        private final int[] row;

        Cells(int length) {
            row = new int[length > 0 ? length : 0];
        }

        int get(int i) {
            return i >= 0 && i < row.length ? row[i] : 0;
        }

        void set(int i, int number) {
            if (i >= 0 && i < row.length) row[i] = number;
        }

        void move(int from, int to, int length) {
            if (length <= 0 || from < 0 || to < 0) return;
            if (from > row.length - length || to > row.length - length) return;
            System.arraycopy(row, from, row, to, length);
        }

        void takeOver(Cells other) {
            System.arraycopy(other.row, 0, row, 0, Math.min(row.length, other.row.length));
        }
    }

    /**
     * The LINES of all FILES, in a slot for each STATE that was TAKEN and in some more on which
     * CHANGES are tried. The VALUE of a MARK never changes, so a slot holds MARKS alone. It tests
     * its places itself, not by Cells: the longest chains of calls end here, and are to stay short.
     */
    private static final class Book {
        private final int[] marks = new int[SLOTS * FILES * LINES];
        private final int[] lengths = new int[SLOTS * FILES];
        private final int[] values = new int[MARKS + 1];
        private int latest = 0;
        private int made = 0;

        int latest() {
            return latest;
        }

        int marksMade() {
            return made;
        }

        int newLine(int value) {
            if (made >= 0 && made < MARKS) {
                made++;
                values[made] = value;
            }
            return made;
        }

        void append(int file, int mark) {
            int length = lengthOf(0, file);
            makeRoom(0, file, length, 0, 1);
            setMark(0, file, length, mark);
        }

        int lengthOf(int slot, int file) {
            if (slot < 0 || slot >= SLOTS || file < 0 || file >= FILES) return 0;
            return lengths[slot * FILES + file];
        }

        int linesIn(int slot) {
            int lines = 0;
            for (int file = 0; file < FILES; file++) lines += lengthOf(slot, file);
            return lines;
        }

        /** A MARK, or 0 ahead of the FILE's beginning and behind its end, as EDITS know it. */
        int markAt(int slot, int file, int i) {
            if (slot < 0 || slot >= SLOTS || file < 0 || file >= FILES || i < 0 || i >= LINES) return 0;
            int at = slot * FILES + file;
            return i < lengths[at] ? marks[at * LINES + i] : 0;
        }

        int valueOf(int mark) {
            return mark > 0 && mark <= MARKS ? values[mark] : 0;
        }

        int nameGivenBy(int mark) {
            if (mark <= 0 || mark > MARKS) return NONE;
            int name = values[mark] - GIVES_FROM;
            return name >= 0 && name < NAMES ? name : NONE;
        }

        int nameAskedBy(int mark) {
            int name = valueOf(mark) - ASKS_FROM;
            return name >= 0 && name < NAMES ? name : NONE;
        }

        int linesGiving(int slot, int name) {
            int lines = 0;
            for (int file = 0; file < FILES; file++) {
                int length = lengthOf(slot, file);
                for (int i = 0; i < length; i++) {
                    if (nameGivenBy(markAt(slot, file, i)) == name) lines++;
                }
            }
            return lines;
        }

        void setMark(int slot, int file, int i, int mark) {
            if (slot < 0 || slot >= SLOTS || file < 0 || file >= FILES || i < 0 || i >= LINES) return;
            marks[(slot * FILES + file) * LINES + i] = mark;
        }

        /** Makes the room that puts LINES need where takes LINES stand. */
        void makeRoom(int slot, int file, int place, int takes, int puts) {
            if (slot < 0 || slot >= SLOTS || file < 0 || file >= FILES) return;
            if (!isIn(place, LINES + 1) || !isIn(takes, LINES + 1) || !isIn(puts, LINES + 1)) return;
            int at = slot * FILES + file;
            int behind = lengths[at] - place - takes;
            if (!isIn(behind, LINES + 1)) return;
            if (place + takes + behind > LINES || place + puts + behind > LINES) return;
            int start = at * LINES + place;
            System.arraycopy(marks, start + takes, marks, start + puts, behind);
            lengths[at] = place + puts + behind;
        }

        void copySlot(int from, int to) {
            if (!isIn(from, SLOTS) || !isIn(to, SLOTS)) return;
            System.arraycopy(lengths, from * FILES, lengths, to * FILES, FILES);
            System.arraycopy(marks, from * FILES * LINES, marks, to * FILES * LINES, FILES * LINES);
        }

        void takeTrial() {
            if (latest < CHANGES) latest++;
            copySlot(TRIAL, latest);
        }

        void takeOver(Book other) {
            System.arraycopy(other.marks, 0, marks, 0, Math.min(marks.length, other.marks.length));
            System.arraycopy(other.lengths, 0, lengths, 0, Math.min(lengths.length, other.lengths.length));
            System.arraycopy(other.values, 0, values, 0, Math.min(values.length, other.values.length));
            latest = other.latest;
            made = other.made;
        }
    }

    /** The TESTS, and what decides of those that are SHAKY. */
    private static final class Tests {
        private final Cells kinds = new Cells(TESTS);
        private final Cells firsts = new Cells(TESTS);
        private final Cells seconds = new Cells(TESTS);
        private final Cells thirds = new Cells(TESTS);
        private final Cells chances = new Cells(TESTS);
        private int made = 0;
        private int most = 1;
        private int needed = 1;
        private int done = 0;
        private int z;

        Tests(int seed) {
            z = seed;
        }

        int made() {
            return made;
        }

        int triesDone() {
            return done;
        }

        int kindOf(int test) {
            return kinds.get(test);
        }

        /** The FILE, or of KIND GIVEN the name, that a TEST looks at. */
        int subjectOf(int test) {
            return firsts.get(test);
        }

        int add(int kind, int a, int b, int c) {
            kinds.set(made, kind);
            firsts.set(made, a);
            seconds.set(made, b);
            thirds.set(made, c);
            chances.set(made, 0);
            made++;
            return made - 1;
        }

        void setOdds(int test, int q) {
            chances.set(test, q);
        }

        void setTries(int m, int h) {
            most = m;
            needed = h;
        }

        /** Whether a TEST holds when it is tried as often as is told, which moves z on. */
        boolean passes(int test, Book book, int slot) {
            boolean stands = standsOn(test, book, slot);
            int q = chances.get(test);
            if (q == 0) {
                done++;
                return stands;
            }
            int held = 0;
            for (int i = 0; i < most && held < needed && i - held <= most - needed; i++) {
                z = z * 1103515245 + 12345;
                done++;
                if (stands && (z >>> 8) % 1000 >= q) held++;
            }
            return held >= needed;
        }

        /** Whether a TEST, as if it were not SHAKY, holds. */
        boolean standsOn(int test, Book book, int slot) {
            int a = firsts.get(test);
            int b = seconds.get(test);
            int c = thirds.get(test);
            switch (kinds.get(test)) {
                case SUM: return b > 0 && sumOf(book, slot, a) % b == c;
                case GIVEN: return book.linesGiving(slot, a) >= b;
                case KNOWN: return isAllKnown(book, slot, a);
                case LONG: return book.lengthOf(slot, a) >= b && book.lengthOf(slot, a) <= c;
                default: return isRising(book, slot, a);
            }
        }

        private static int sumOf(Book book, int slot, int file) {
            int sum = 0;
            int length = book.lengthOf(slot, file);
            for (int i = 0; i < length; i++) sum += book.valueOf(book.markAt(slot, file, i));
            return sum;
        }

        private static boolean isAllKnown(Book book, int slot, int file) {
            int length = book.lengthOf(slot, file);
            for (int i = 0; i < length; i++) {
                int name = book.nameAskedBy(book.markAt(slot, file, i));
                if (name != NONE && book.linesGiving(slot, name) == 0) return false;
            }
            return true;
        }

        private static boolean isRising(Book book, int slot, int file) {
            int length = book.lengthOf(slot, file);
            for (int i = 1; i < length; i++) {
                int ahead = book.valueOf(book.markAt(slot, file, i - 1));
                if (book.valueOf(book.markAt(slot, file, i)) < ahead) return false;
            }
            return true;
        }

        void takeOver(Tests other) {
            kinds.takeOver(other.kinds);
            firsts.takeOver(other.firsts);
            seconds.takeOver(other.seconds);
            thirds.takeOver(other.thirds);
            chances.takeOver(other.chances);
            made = other.made;
            most = other.most;
            needed = other.needed;
            done = other.done;
            z = other.z;
        }
    }

    /**
     * The CHANGES. Behind the last one there is room for one more: a REVERT is laid out there and
     * looked at, and is a CHANGE only if it may be made.
     */
    private static final class Changes {
        private final Cells kinds = new Cells(CHANGES + 1);
        private final Cells stands = new Cells(CHANGES + 1);
        private final Cells bases = new Cells(CHANGES + 1);
        private final Cells takenStates = new Cells(CHANGES + 1);
        private final Cells failures = new Cells(CHANGES + 1);
        private final Cells partners = new Cells(CHANGES + 1);
        private final Cells hands = new Cells(CHANGES + 1);
        private final Cells editCounts = new Cells(CHANGES + 1);
        private final Edits edits = new Edits();
        private int made = 0;

        int made() {
            return made;
        }

        int begin(int kind, int state) {
            kinds.set(made, kind);
            stands.set(made, IN_MAKING);
            bases.set(made, state);
            takenStates.set(made, NONE);
            failures.set(made, NONE);
            partners.set(made, NONE);
            hands.set(made, 0);
            editCounts.set(made, 0);
            return made;
        }

        int finish() {
            if (made < CHANGES) made++;
            return made - 1;
        }

        int kindOf(int change) {
            return kinds.get(change);
        }

        int standOf(int change) {
            return stands.get(change);
        }

        void setStand(int change, int stand) {
            stands.set(change, stand);
        }

        int takenWith(int change) {
            return takenStates.get(change);
        }

        void setTakenWith(int change, int state) {
            takenStates.set(change, state);
        }

        int failedBy(int change) {
            return failures.get(change);
        }

        void setFailedBy(int change, int test) {
            failures.set(change, test);
        }

        int editsOf(int change) {
            return editCounts.get(change);
        }

        int partnerOf(int change) {
            return partners.get(change);
        }

        boolean canPair(int change) {
            return stands.get(change) == IN_MAKING && partners.get(change) == NONE;
        }

        void join(int a, int b) {
            partners.set(a, b);
            partners.set(b, a);
        }

        int swapHand(int change, int given) {
            int was = hands.get(change);
            hands.set(change, given);
            return was;
        }

        boolean isOpen(int change, int latest) {
            return stands.get(change) == IN_MAKING && bases.get(change) == latest
                    && kinds.get(change) != REVERT;
        }

        boolean hasFile(int change, int file) {
            int count = editsOf(change);
            for (int i = 0; i < count; i++) {
                if (edits.fileOf(change * EDITS + i) == file) return true;
            }
            return false;
        }

        int addEdit(int change, int file, int takes, int puts) {
            int edit = change * EDITS + editsOf(change);
            edits.begin(edit, file, takes, puts);
            editCounts.set(change, editsOf(change) + 1);
            return edit;
        }

        void takeLines(int edit, Book book, int place) {
            edits.takeLines(edit, book, place);
        }

        void putLines(int edit, Book book, int value) {
            edits.putLines(edit, book, value);
        }

        void turnEdits(int from, int to) {
            int count = editsOf(from);
            for (int i = 0; i < count; i++) edits.turn(from * EDITS + i, to * EDITS + i);
            editCounts.set(to, count);
        }

        /** Whether nothing of a CHANGE itself keeps it from being run. */
        boolean isFree(int change) {
            return stands.get(change) == IN_LINE && (kinds.get(change) != HELD || hands.get(change) == 1);
        }

        /** Whether a CHANGE or the one with which it is PAIRED is of a KIND. */
        boolean isUnitOf(int change, int kind) {
            int partner = partners.get(change);
            return kinds.get(change) == kind || partner != NONE && kinds.get(partner) == kind;
        }

        boolean fitsOn(int change, Book book, int slot) {
            int count = editsOf(change);
            for (int i = 0; i < count; i++) {
                if (edits.placeOf(change * EDITS + i, book, slot) == NONE) return false;
            }
            return true;
        }

        /**
         * Does the EDITS on a slot, as far as they fit. They are of different FILES, so that none
         * changes whether another one fits; if the answer is no, the slot is of no use any more.
         */
        boolean comesOn(int change, Book book, int slot) {
            int count = editsOf(change);
            for (int i = 0; i < count; i++) {
                int place = edits.placeOf(change * EDITS + i, book, slot);
                if (place == NONE) return false;
                edits.doAt(change * EDITS + i, book, slot, place);
            }
            return true;
        }

        boolean meets(int change, int kind, int subject, Book book) {
            int count = editsOf(change);
            for (int i = 0; i < count; i++) {
                int edit = change * EDITS + i;
                if (kind != GIVEN && edits.fileOf(edit) == subject) return true;
                if (kind == GIVEN && edits.gives(edit, subject, book)) return true;
                if (kind == KNOWN && edits.gives(edit, NONE, book)) return true;
            }
            return false;
        }

        void takeOver(Changes other) {
            kinds.takeOver(other.kinds);
            stands.takeOver(other.stands);
            bases.takeOver(other.bases);
            takenStates.takeOver(other.takenStates);
            failures.takeOver(other.failures);
            partners.takeOver(other.partners);
            hands.takeOver(other.hands);
            editCounts.takeOver(other.editCounts);
            edits.takeOver(other.edits);
            made = other.made;
        }
    }

    /** The EDITS of all CHANGES. A REVERT may put as many LINES as another EDIT may take. */
    private static final class Edits {
        private static final int ROOM = (CHANGES + 1) * EDITS;

        private final Cells files = new Cells(ROOM);
        private final Cells aheads = new Cells(ROOM);
        private final Cells behinds = new Cells(ROOM);
        private final Cells takes = new Cells(ROOM);
        private final Cells puts = new Cells(ROOM);
        private final Cells taken = new Cells(ROOM * TAKES);
        private final Cells put = new Cells(ROOM * TAKES);

        void begin(int edit, int file, int takeCount, int putCount) {
            files.set(edit, file);
            takes.set(edit, takeCount);
            puts.set(edit, putCount);
        }

        int fileOf(int edit) {
            return files.get(edit);
        }

        void takeLines(int edit, Book book, int place) {
            int file = files.get(edit);
            int count = takes.get(edit);
            aheads.set(edit, book.markAt(book.latest(), file, place - 1));
            behinds.set(edit, book.markAt(book.latest(), file, place + count));
            for (int i = 0; i < count; i++) {
                taken.set(edit * TAKES + i, book.markAt(book.latest(), file, place + i));
            }
        }

        void putLines(int edit, Book book, int value) {
            int count = puts.get(edit);
            for (int i = 0; i < count; i++) put.set(edit * TAKES + i, book.newLine(value + i));
        }

        void turn(int from, int to) {
            files.set(to, files.get(from));
            aheads.set(to, aheads.get(from));
            behinds.set(to, behinds.get(from));
            takes.set(to, puts.get(from));
            puts.set(to, takes.get(from));
            for (int i = 0; i < TAKES; i++) {
                taken.set(to * TAKES + i, put.get(from * TAKES + i));
                put.set(to * TAKES + i, taken.get(from * TAKES + i));
            }
        }

        int placeOf(int edit, Book book, int slot) {
            int file = files.get(edit);
            int count = takes.get(edit);
            int length = book.lengthOf(slot, file);
            if (length - count + puts.get(edit) > LINES) return NONE;
            for (int place = 0; place <= length - count; place++) {
                boolean same = book.markAt(slot, file, place - 1) == aheads.get(edit)
                        && book.markAt(slot, file, place + count) == behinds.get(edit);
                for (int i = 0; i < count && same; i++) {
                    same = book.markAt(slot, file, place + i) == taken.get(edit * TAKES + i);
                }
                if (same) return place;
            }
            return NONE;
        }

        void doAt(int edit, Book book, int slot, int place) {
            int file = files.get(edit);
            int count = puts.get(edit);
            book.makeRoom(slot, file, place, takes.get(edit), count);
            for (int i = 0; i < count; i++) book.setMark(slot, file, place + i, put.get(edit * TAKES + i));
        }

        /** Whether a LINE that is taken or put gives a name, or any, if the name is NONE. */
        boolean gives(int edit, int name, Book book) {
            return isGiven(taken, edit * TAKES, takes.get(edit), name, book)
                    || isGiven(put, edit * TAKES, puts.get(edit), name, book);
        }

        private static boolean isGiven(Cells marks, int from, int count, int name, Book book) {
            for (int i = 0; i < count; i++) {
                int given = book.nameGivenBy(marks.get(from + i));
                if (given != NONE && (name == NONE || given == name)) return true;
            }
            return false;
        }

        void takeOver(Edits other) {
            files.takeOver(other.files);
            aheads.takeOver(other.aheads);
            behinds.takeOver(other.behinds);
            takes.takeOver(other.takes);
            puts.takeOver(other.puts);
            taken.takeOver(other.taken);
            put.takeOver(other.put);
        }
    }

    /** THE LINE. */
    private static final class Lane {
        private final Cells order = new Cells(CHANGES);
        private int length = 0;

        int length() {
            return length;
        }

        int add(int change) {
            order.set(length, change);
            length++;
            return length - 1;
        }

        int changeAt(int place) {
            return isIn(place, length) ? order.get(place) : NONE;
        }

        int placeOf(int change) {
            for (int i = 0; i < length; i++) {
                if (order.get(i) == change) return i;
            }
            return NONE;
        }

        void drop(int change) {
            int stay = 0;
            for (int i = 0; i < length; i++) {
                int other = order.get(i);
                if (other != change) {
                    order.set(stay, other);
                    stay++;
                }
            }
            length = stay;
        }

        void takeOver(Lane other) {
            order.takeOver(other.order);
            length = other.length;
        }
    }

    /**
     * WORK. Halves of a ROW lie above each other as they stood in it, so the UNITS, from the topmost
     * ROW on, are one sequence; the ROWS are told by their lengths, the topmost one as the last.
     */
    private static final class Pile {
        private final Cells heads = new Cells(UNITS);
        private final Cells tails = new Cells(UNITS);
        private final Cells lengths = new Cells(UNITS);
        private final Cells dooms = new Cells(UNITS);
        private final Cells wholes = new Cells(UNITS);
        private final Cells failures = new Cells(UNITS);
        private int units = 0;
        private int rows = 0;

        int rows() {
            return rows;
        }

        int units() {
            return units;
        }

        int headAt(int unit) {
            return heads.get(unit);
        }

        int topLength() {
            return rows > 0 ? lengths.get(rows - 1) : 0;
        }

        int topFailure() {
            return failures.get(rows - 1);
        }

        boolean isTopDoomed() {
            return rows > 0 && dooms.get(rows - 1) == 1;
        }

        int changeCount() {
            return changesAhead(units);
        }

        int topChangeCount() {
            return changesAhead(topLength());
        }

        private int changesAhead(int unit) {
            int count = 0;
            for (int i = 0; i < unit; i++) count += tails.get(i) == NONE ? 1 : 2;
            return count;
        }

        int changeAt(int k) {
            int left = k;
            for (int i = 0; i < units && left >= 0; i++) {
                if (left == 0) return heads.get(i);
                if (left == 1 && tails.get(i) != NONE) return tails.get(i);
                left -= tails.get(i) == NONE ? 1 : 2;
            }
            return NONE;
        }

        boolean holdsChange(int change) {
            for (int i = 0; i < units; i++) {
                if (heads.get(i) == change || tails.get(i) == change) return true;
            }
            return false;
        }

        /** A UNIT more in the ROW of a new BATCH. */
        void add(int head, int tail) {
            if (units >= UNITS) return;
            if (rows == 0) push(0, 0, NONE);
            heads.set(units, head);
            tails.set(units, tail);
            units++;
            lengths.set(0, units);
        }

        private void push(int length, int whole, int failure) {
            lengths.set(rows, length);
            dooms.set(rows, 0);
            wholes.set(rows, whole);
            failures.set(rows, failure);
            rows++;
        }

        /** A UNIT leaves the topmost ROW: that is as it was no more. */
        void dropUnit(int unit) {
            if (!isIn(unit, topLength())) return;
            dropUnits(unit, 1);
            lengths.set(rows - 1, lengths.get(rows - 1) - 1);
            dooms.set(rows - 1, 0);
            wholes.set(rows - 1, 0);
        }

        private void dropUnits(int from, int count) {
            int behind = units - from - count;
            heads.move(from + count, from, behind);
            tails.move(from + count, from, behind);
            units -= count;
        }

        void dropTop() {
            if (rows == 0) return;
            dropUnits(0, topLength());
            rows--;
        }

        /** The topmost ROW was TAKEN by one RUN: if it was first ones, the others are DOOMED. */
        void takeTop() {
            boolean whole = rows > 0 && wholes.get(rows - 1) == 1;
            dropTop();
            if (whole && rows > 0) dooms.set(rows - 1, 1);
        }

        void doomTop(int test) {
            dooms.set(rows - 1, 1);
            failures.set(rows - 1, test);
        }

        void halveTop() {
            int length = topLength();
            if (length < 2) return;
            int top = rows - 1;
            lengths.set(top, length - length / 2);
            dooms.set(top, 0);
            wholes.set(top, 0);
            push(length / 2, 1, failures.get(top));
        }

        void takeOver(Pile other) {
            heads.takeOver(other.heads);
            tails.takeOver(other.tails);
            lengths.takeOver(other.lengths);
            dooms.takeOver(other.dooms);
            wholes.takeOver(other.wholes);
            failures.takeOver(other.failures);
            units = other.units;
            rows = other.rows;
        }
    }

    /** THE LOG, as it tells the RUNS and as they were. */
    private static final class Ledger {
        private static final int BASE = 61, MODULUS = 1000003;

        private final Cells told = new Cells(RUNS * FACTS);
        private final Cells real = new Cells(RUNS * FACTS);
        private int runs = 0;

        int runs() {
            return runs;
        }

        void write(int state, Pile pile, int answer) {
            int count = pile.topChangeCount();
            setFact(0, state);
            setFact(1, count);
            setFact(2, sumOf(pile, count));
            setFact(3, answer);
            runs++;
        }

        private void setFact(int what, int number) {
            told.set(runs * FACTS + what, number);
            real.set(runs * FACTS + what, number);
        }

        private static int sumOf(Pile pile, int count) {
            int sum = 0;
            int power = 1;
            for (int i = 0; i < count; i++) {
                sum = (sum + (pile.changeAt(i) + 1) * power) % MODULUS;
                power = power * BASE % MODULUS;
            }
            return sum;
        }

        int tell(int run, int what) {
            return told.get(run * FACTS + what);
        }

        int twist(int run, int what, int mask) {
            told.set(run * FACTS + what, tell(run, what) ^ mask);
            return tell(run, what);
        }

        int firstWrong() {
            for (int i = 0; i < runs * FACTS; i++) {
                if (told.get(i) != real.get(i)) return i / FACTS;
            }
            return NONE;
        }

        void takeOver(Ledger other) {
            told.takeOver(other.told);
            real.takeOver(other.real);
            runs = other.runs;
        }
    }

    /** All that a keep() keeps, and the WORK that is done with it. */
    private static final class Hall {
        private final Book book = new Book();
        private final Tests tests;
        private final Changes changes = new Changes();
        private final Lane lane = new Lane();
        private final Pile pile = new Pile();
        private final Ledger ledger = new Ledger();
        private int limit = 4;

        Hall(int seed) {
            tests = new Tests(seed);
        }

        int swapLimit(int units) {
            int was = limit;
            limit = units;
            return was;
        }

        int standing(int change) {
            int stand = changes.standOf(change);
            if (stand != IN_LINE) return stand;
            if (pile.holdsChange(change)) return IN_ROW;
            return isReady(change) ? IN_LINE : NOT_READY;
        }

        void takeOut(int change, int stand) {
            changes.setStand(change, stand);
            lane.drop(change);
        }

        private boolean isReady(int change) {
            int partner = changes.partnerOf(change);
            return changes.isFree(change) && (partner == NONE || changes.isFree(partner));
        }

        /** Whether a READY UNIT stands at a place of THE LINE: a PAIR stands where its first one does. */
        private boolean isReadyAt(int place) {
            int change = lane.changeAt(place);
            if (change == NONE || !isReady(change)) return false;
            int partner = changes.partnerOf(change);
            return partner == NONE || lane.placeOf(partner) > place;
        }

        /** Whether something lies in WORK, if need be after a BATCH was made. */
        boolean findsWork() {
            boolean again = true;
            for (int look = 0; look <= CHANGES && again && pile.rows() == 0; look++) {
                int waiting = lane.length();
                int lone = findLone();
                if (lone == NONE) gather(); else gatherLone(lone);
                again = lane.length() < waiting;
            }
            return pile.rows() > 0;
        }

        /** The UNIT that an URGENT or a WIDE CHANGE makes a BATCH of its own; NONE. */
        private int findLone() {
            int first = NONE;
            for (int place = 0; place < lane.length(); place++) {
                if (!isReadyAt(place)) continue;
                int change = lane.changeAt(place);
                if (changes.isUnitOf(change, URGENT)) return change;
                if (first == NONE) first = change;
            }
            return first != NONE && changes.isUnitOf(first, WIDE) ? first : NONE;
        }

        private void gatherLone(int change) {
            if (unitComes(change, book.latest(), TRIAL)) {
                pile.add(change, changes.partnerOf(change));
            } else {
                sendBack(change, CLASH);
            }
        }

        private void gather() {
            book.copySlot(book.latest(), TRIAL);
            int all = lane.length();
            int place = 0;
            for (int i = 0; i < all && place < lane.length() && pile.units() < limit; i++) {
                int change = lane.changeAt(place);
                boolean ready = isReadyAt(place);
                if (ready && changes.isUnitOf(change, WIDE)) return;
                boolean comes = ready && unitComes(change, TRIAL, SPARE);
                if (comes) {
                    book.copySlot(SPARE, TRIAL);
                    pile.add(change, changes.partnerOf(change));
                }
                if (ready && !comes && !unitComes(change, book.latest(), SPARE)) {
                    sendBack(change, CLASH);
                } else {
                    // Only here: what goes BACK leaves its place to the one behind it.
                    place++;
                }
            }
        }

        /** Makes a slot what another one is with the CHANGES of a UNIT done, if they FIT. */
        private boolean unitComes(int change, int from, int to) {
            int partner = changes.partnerOf(change);
            book.copySlot(from, to);
            if (!changes.comesOn(change, book, to)) return false;
            return partner == NONE || changes.comesOn(partner, book, to);
        }

        private void sendBack(int change, int reason) {
            int partner = changes.partnerOf(change);
            takeOut(change, reason);
            if (partner != NONE) takeOut(partner, reason);
        }

        /** Lets UNITS leave the topmost ROW. What is left of it is done on the TRIAL then. */
        void trimTop() {
            book.copySlot(book.latest(), TRIAL);
            int all = pile.topLength();
            int stay = 0;
            for (int i = 0; i < all; i++) {
                int change = pile.headAt(stay);
                if (isReady(change) && unitComes(change, TRIAL, SPARE)) {
                    book.copySlot(SPARE, TRIAL);
                    stay++;
                } else {
                    pile.dropUnit(stay);
                }
            }
        }

        boolean isTopToRun() {
            return pile.topLength() > 0 && !pile.isTopDoomed();
        }

        /** RUNS the topmost ROW on the TRIAL, which trimTop() has just made. */
        void runTop() {
            int failed = NONE;
            for (int test = 0; test < tests.made() && failed == NONE; test++) {
                if (isTouchedByTop(test) && !tests.passes(test, book, TRIAL)) failed = test;
            }
            ledger.write(book.latest(), pile, failed);
            if (failed == NONE) {
                takeTop();
            } else {
                pile.doomTop(failed);
            }
        }

        private boolean isTouchedByTop(int test) {
            int kind = tests.kindOf(test);
            int subject = tests.subjectOf(test);
            int count = pile.topChangeCount();
            for (int i = 0; i < count; i++) {
                if (changes.meets(pile.changeAt(i), kind, subject, book)) return true;
            }
            return false;
        }

        private void takeTop() {
            book.takeTrial();
            int count = pile.topChangeCount();
            for (int i = 0; i < count; i++) {
                changes.setTakenWith(pile.changeAt(i), book.latest());
                takeOut(pile.changeAt(i), TAKEN);
            }
            pile.takeTop();
        }

        /** What is done with a topmost ROW that is not to be run: it is empty, or DOOMED. */
        void settleTop() {
            if (pile.topLength() > 1) {
                pile.halveTop();
                return;
            }
            if (pile.topLength() == 1) failTop();
            pile.dropTop();
        }

        private void failTop() {
            int change = pile.headAt(0);
            int partner = changes.partnerOf(change);
            changes.setFailedBy(change, pile.topFailure());
            if (partner != NONE) changes.setFailedBy(partner, pile.topFailure());
            sendBack(change, FAILS);
        }

        void takeOver(Hall other) {
            book.takeOver(other.book);
            tests.takeOver(other.tests);
            changes.takeOver(other.changes);
            lane.takeOver(other.lane);
            pile.takeOver(other.pile);
            ledger.takeOver(other.ledger);
            limit = other.limit;
        }
    }
}
