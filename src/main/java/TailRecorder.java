import java.util.Arrays;

/** Latency recorders, after shared/DOC.md; the words of that document are used here in small letters. */
public final class TailRecorder {
    public static final int NONE = -1;

    private static final int DONE = 0;
    private static final int CANT = -2;
    private static final int WRONG_PLACE = -2;
    private static final int WRONG_KIND = -3;
    private static final int NOTHING_THERE = -4;
    private static final long NO_PEEK = -9223372036854775808L;

    private static final int RECORDERS = 4;
    private static final int WRITERS = 4;
    private static final int UNDOABLE = 8;
    private static final int MOST_BYTES = 400;
    private static final int FED_BYTES = 20;

    private static final int COUNTS = 0;
    private static final int WEIGHTS = 1;
    private static final int SIXTEENTHS = 16;
    private static final long LEAST_HIGHEST = 1000L;
    private static final long MOST_HIGHEST = 1000000000000L;
    private static final long MOST_UNITS = 1000000000000000L;
    private static final long MOST_AT_ONCE = 1000000000000L;
    private static final int MOST_AWAITED = 1000;
    private static final int MOST_RANK = 100000;
    private static final int MOST_MARK = 100;

    private static final int PLACES = 16;
    /** Two digits up to MOST_HIGHEST make 4329 slots, and no recorder has more. */
    private static final int MOST_PAGES = 271;

    private static final int EMPTY = 0;
    private static final int BOOLEANS = 1;
    private static final int LONGS = 6;
    private static final int FLOATS = 7;
    private static final int DOUBLES = 8;
    private static final int LEVEL = 9;
    private static final int TEXT = 10;
    /** Not kinds of pages: what stands beside one, numbered on so that one table serves both. */
    private static final int EXAMPLES_ROW = 11;
    private static final int NAMES_ROW = 12;

    private static final int AS_IT_IS = 0;
    private static final int AS_BOOLEAN = 1;
    private static final int AS_FLOAT = 7;
    private static final int AS_DOUBLE = 8;
    private static final int AS_THINGS = 10;
    private static final int NOTHING_AT_ALL = 19;
    private static final int LAST_HOW = 21;

    private static final long LETTERS = 65535L;
    /** By kind, 0 to 8: the most units that a place of such a row can have. */
    private static final long[] HOLDS = {
        0L, 1L, 127L, 32767L, 65535L, 2147483647L, MOST_UNITS, 1048576L, MOST_UNITS};
    /** By kind, 0 to 10: the bytes of a whole page. */
    private static final int[] BYTES = {0, 16, 16, 32, 32, 64, 128, 64, 128, 8, 32};
    /** By kind, 0 to 12: bit h is set if one may peek there by how h. */
    private static final int[] GIVES = {
        0, 0b000000011, 0b111101101, 0b111101001, 0b111110001, 0b111100001, 0b111000001,
        0b110000001, 0b100000001, 0, 0, 1, 1};
    /** By kind, 0 to 12: bit h is set if one may poke there by how h (things as what they hold). */
    private static final int[] TAKES = {
        0, 0b000000010, 0b000000100, 0b000001100, 0b000010000, 0b000111100, 0b001111100,
        0b011111100, 0b111111100, 0, 0, 1 << 19 | 1 << 20, 1 << 19 | 1 << 21};

    private final Ledger[] ledgers = new Ledger[RECORDERS];
    private final Pair pair = new Pair();
    private final Tape tape = new Tape();
    private final Tape draft = new Tape();
    private final History history = new History();

    public TailRecorder() {
        for (int k = 0; k < ledgers.length; k++) {
            ledgers[k] = new Ledger();
        }
    }

    // ---- the tape

    public int feed(int a, int b, int c, int d, int e) {
        if (tape.length > MOST_BYTES - FED_BYTES) {
            return NONE;
        }
        tape.appendInt(a);
        tape.appendInt(b);
        tape.appendInt(c);
        tape.appendInt(d);
        tape.appendInt(e);
        return tape.length;
    }

    public int end(int n) {
        if (n < 0 || n > tape.length) {
            return NONE;
        }
        tape.length = n;
        return n;
    }

    public int octet(int k) {
        return tape.byteAt(k);
    }

    public int pack(int recorder) {
        Ledger ledger = madeAt(recorder);
        if (ledger == null) {
            return NONE;
        }
        draft.length = 0;
        if (!ledger.packTo(draft)) {
            return CANT;
        }
        tape.become(draft);
        return tape.length;
    }

    public int unpack(int recorder) {
        Ledger ledger = ledgerAt(recorder);
        if (ledger == null) {
            return NONE;
        }
        Unpacking bytes = new Unpacking(tape);
        int fault = bytes.faultOfAll();
        if (fault == 0) {
            remember(recorder);
            bytes.fill(ledger);
        }
        tape.length = 0;
        return fault == 0 ? ledger.slots : -2 - fault;
    }

    // ---- slots of values

    public int slot(int digits, long v) {
        return digits < 1 || digits > 2 || v < 0 ? NONE : slotOf(digits, v);
    }

    public long edge(int digits, long v, int what) {
        if (digits < 1 || digits > 2 || v < 0 || what < 0 || what > 2) {
            return NONE;
        }
        int s = slotOf(digits, v);
        return what == 0 ? lowOf(digits, s) : what == 1 ? highOf(digits, s) : middleOf(digits, s);
    }

    // ---- recorders

    public int make(int recorder, int sort, int digits, long highest) {
        Ledger ledger = ledgerAt(recorder);
        if (ledger == null || !isSetting(sort, digits, highest)) {
            return NONE;
        }
        remember(recorder);
        ledger.open(sort, digits, highest);
        return ledger.slots;
    }

    public long record(int recorder, long v, long n, long interval) {
        Ledger ledger = madeAt(recorder);
        if (ledger == null || n < 1 || n > MOST_AT_ONCE || interval < 0) {
            return NONE;
        }
        if (!ledger.pour(v, n, interval, false)) {
            return CANT;
        }
        remember(recorder);
        ledger.pour(v, n, interval, true);
        return ledger.unitsOf(slotOf(ledger.digits, v));
    }

    public long at(int recorder, long v) {
        Ledger ledger = madeAt(recorder);
        return ledger == null || !ledger.reaches(v) ? NONE : ledger.unitsOf(slotOf(ledger.digits, v));
    }

    public long below(int recorder, long v) {
        Ledger ledger = madeAt(recorder);
        return ledger == null || !ledger.reaches(v) ? NONE : ledger.unitsAhead(slotOf(ledger.digits, v));
    }

    public long total(int recorder) {
        Ledger ledger = madeAt(recorder);
        return ledger == null ? NONE : ledger.allUnits();
    }

    public long rank(int recorder, int r) {
        Ledger ledger = madeAt(recorder);
        if (ledger == null || r < 0 || r > MOST_RANK) {
            return NONE;
        }
        long all = ledger.allUnits();
        return all == 0 ? CANT : ledger.valueWith(wanted(r, all));
    }

    public long about(int recorder, int what) {
        Ledger ledger = madeAt(recorder);
        if (ledger == null || what < 0 || what > 2) {
            return NONE;
        }
        if (ledger.lastUsed() == NONE) {
            return CANT;
        }
        return what == 0 ? ledger.least() : what == 1 ? ledger.greatest() : ledger.mean();
    }

    public long add(int a, int b) {
        return merge(a, b, 1);
    }

    public long takeOff(int a, int b) {
        return merge(a, b, -1);
    }

    public long halve(int recorder) {
        Ledger ledger = madeAt(recorder);
        if (ledger == null) {
            return NONE;
        }
        remember(recorder);
        ledger.halveAll();
        return ledger.allUnits();
    }

    public int same(int a, int b) {
        Ledger one = madeAt(a);
        Ledger other = madeAt(b);
        if (one == null || other == null) {
            return NONE;
        }
        return one.isLike(other) ? 1 : 0;
    }

    public long setting(int recorder, int what) {
        Ledger ledger = madeAt(recorder);
        if (ledger == null) {
            return NONE;
        }
        switch (what) {
            case 0: return ledger.sort;
            case 1: return ledger.digits;
            case 2: return ledger.highest;
            case 3: return ledger.slots;
            case 4: return ledger.usedSlots();
            default: return NONE;
        }
    }

    // ---- pages

    public int shelve(int recorder) {
        Ledger ledger = madeAt(recorder);
        if (ledger == null) {
            return NONE;
        }
        remember(recorder);
        return ledger.shelveAll();
    }

    public int kind(int recorder, int page) {
        Ledger ledger = madeAt(recorder);
        if (ledger == null) {
            return NONE;
        }
        if (page == NONE) {
            return ledger.pages;
        }
        return ledger.hasPage(page) ? ledger.kindOf(page) : NONE;
    }

    public int room(int recorder) {
        Ledger ledger = madeAt(recorder);
        return ledger == null ? NONE : ledger.bytesOfPages();
    }

    public long peek(int recorder, int what, int page, int place, int how) {
        Ledger ledger = madeAt(recorder);
        if (ledger == null || what < 0 || what > 1 || !ledger.hasPage(page) || how < AS_IT_IS || how > AS_DOUBLE) {
            return NO_PEEK;
        }
        int kind = what == 0 ? ledger.kindOf(page) : ledger.rowOf(page);
        int refused = refusal(GIVES, kind, place, how);
        if (refused != DONE) {
            return refused;
        }
        int where = PLACES * page + place;
        return what == 0 ? told(kind, how, ledger.unitsOf(where)) : ledger.markOf(where);
    }

    public int poke(int recorder, int what, int page, int place, int how, int w) {
        Ledger ledger = madeAt(recorder);
        if (ledger == null || what < 0 || what > 1 || !ledger.hasPage(page) || !isPokeHow(how) || !isMark(w)) {
            return NONE;
        }
        int plain = how > AS_THINGS && how < NOTHING_AT_ALL ? how - AS_THINGS : how;
        int refused = refusal(TAKES, what == 0 ? ledger.kindOf(page) : ledger.rowOf(page), place, plain);
        if (refused != DONE) {
            return refused;
        }
        remember(recorder);
        int where = PLACES * page + place;
        if (what == 1) {
            ledger.putMark(where, plain == NOTHING_AT_ALL ? NONE : w);
        } else {
            int number = plain == AS_BOOLEAN ? Math.min(w, 1) : w;
            ledger.rewrite(where, ledger.sort == WEIGHTS ? SIXTEENTHS * number : number);
        }
        return DONE;
    }

    public int example(int recorder, long v, boolean named, int w) {
        Ledger ledger = madeAt(recorder);
        if (ledger == null || !ledger.reaches(v) || !isMark(w)) {
            return NONE;
        }
        int s = slotOf(ledger.digits, v);
        int row = ledger.rowOf(s / PLACES);
        int wanted = named ? NAMES_ROW : EXAMPLES_ROW;
        if (row != EMPTY && row != wanted) {
            return WRONG_KIND;
        }
        remember(recorder);
        ledger.putRow(s / PLACES, wanted);
        ledger.putMark(s, w);
        return DONE;
    }

    public int examples(int recorder) {
        Ledger ledger = madeAt(recorder);
        return ledger == null ? NONE : ledger.marksInAll();
    }

    // ---- the pair

    public int begin(int writer) {
        if (writer < 0 || writer >= WRITERS || pair.recorderOf(writer) != NONE || madeAt(pair.active) == null) {
            return NONE;
        }
        remember(NONE);
        pair.setRecorderOf(writer, pair.active);
        return pair.active;
    }

    public long write(int writer, long v, long n, long interval) {
        return record(pair.recorderOf(writer), v, n, interval);
    }

    public int stop(int writer) {
        if (pair.recorderOf(writer) == NONE) {
            return NONE;
        }
        remember(NONE);
        pair.setRecorderOf(writer, NONE);
        return Integer.bitCount(pair.writerBits());
    }

    public int swap() {
        Ledger next = madeAt(1 - pair.active);
        if (next == null || madeAt(pair.active) == null) {
            return NONE;
        }
        if (pair.isWrittenTo(1 - pair.active)) {
            return CANT;
        }
        remember(1 - pair.active);
        next.clear();
        pair.rests = pair.active;
        pair.active = 1 - pair.active;
        return pair.active;
    }

    public long read() {
        Ledger ledger = madeAt(pair.rests);
        if (ledger == null) {
            return NONE;
        }
        return pair.isWrittenTo(pair.rests) ? CANT : ledger.allUnits();
    }

    // ---- acts and counts

    public int undo() {
        Step step = history.takeLast();
        if (step == null) {
            return NONE;
        }
        Ledger ledger = ledgerAt(step.recorder);
        if (ledger != null) {
            ledger.become(step.ledger);
        }
        pair.become(step.pair);
        return history.known;
    }

    public int count(int what) {
        switch (what) {
            case 0: return madeBits();
            case 1: return pair.active;
            case 2: return pair.writerBits();
            case 3: return pair.rests;
            case 4: return history.known;
            case 5: return tape.length;
            default: return NONE;
        }
    }

    // ---- what the methods of the face share

    private Ledger ledgerAt(int recorder) {
        return recorder < 0 || recorder >= ledgers.length ? null : ledgers[recorder];
    }

    private Ledger madeAt(int recorder) {
        Ledger ledger = ledgerAt(recorder);
        return ledger == null || !ledger.made ? null : ledger;
    }

    private int madeBits() {
        int bits = 0;
        for (int k = 0; k < RECORDERS; k++) {
            if (madeAt(k) != null) {
                bits |= 1 << k;
            }
        }
        return bits;
    }

    /** Comes before every act: no act changes more than one recorder and the pair. */
    private void remember(int recorder) {
        Step step = history.another();
        if (step == null) {
            return;
        }
        step.recorder = recorder;
        step.pair.become(pair);
        Ledger ledger = ledgerAt(recorder);
        if (ledger != null) {
            step.ledger.become(ledger);
        }
    }

    private long merge(int a, int b, int sign) {
        Ledger to = madeAt(a);
        Ledger from = madeAt(b);
        if (to == null || from == null) {
            return NONE;
        }
        if (!to.canMerge(from, sign)) {
            return CANT;
        }
        remember(a);
        to.mergeFrom(from, sign);
        return to.allUnits();
    }

    private static boolean isSetting(int sort, int digits, long highest) {
        return (sort == COUNTS || sort == WEIGHTS) && (digits == 1 || digits == 2)
            && highest >= LEAST_HIGHEST && highest <= MOST_HIGHEST;
    }

    private static boolean isMark(int w) {
        return w >= 0 && w <= MOST_MARK;
    }

    private static boolean isPokeHow(int how) {
        return how >= AS_BOOLEAN && how <= AS_DOUBLE || how > AS_THINGS && how <= LAST_HOW;
    }

    // ---- the arithmetic of slots

    private static int bitsOf(int digits) {
        return digits == 1 ? 5 : 8;
    }

    private static int slotOf(int digits, long v) {
        int bits = bitsOf(digits);
        int shift = Math.max(0, 64 - Long.numberOfLeadingZeros(v) - bits);
        return (shift << (bits - 1)) + (int) (v >> shift);
    }

    /** Each half of slots behind the second has twice the width of the one before it. */
    private static int shiftOf(int bits, int s) {
        return Math.max(0, (s >> (bits - 1)) - 1);
    }

    private static long lowOf(int digits, int s) {
        int bits = bitsOf(digits);
        int shift = shiftOf(bits, s);
        return (long) (s - (shift << (bits - 1))) << shift;
    }

    /** How far it is from low to high. */
    private static long reachOf(int digits, int s) {
        return (1L << shiftOf(bitsOf(digits), s)) - 1;
    }

    private static long highOf(int digits, int s) {
        return lowOf(digits, s) + reachOf(digits, s);
    }

    /** Not the sum of low and high by 2, which the highest values would carry beyond a long. */
    private static long middleOf(int digits, int s) {
        return lowOf(digits, s) + reachOf(digits, s) / 2;
    }

    /** By parts, as r * all may go beyond a long. */
    private static long wanted(int r, long all) {
        long part = (all % MOST_RANK * r + MOST_RANK - 1) / MOST_RANK;
        return Math.max(1, all / MOST_RANK * r + part);
    }

    // ---- peek and poke

    private static int refusal(int[] right, int kind, int place, int how) {
        if (kind == EMPTY) {
            return NOTHING_THERE;
        }
        if (place < 0 || place >= PLACES) {
            return WRONG_PLACE;
        }
        boolean fits = kind > 0 && kind < right.length && (right[kind] >> how & 1) == 1;
        return fits ? DONE : WRONG_KIND;
    }

    private static long told(int kind, int how, long units) {
        int down = kind == FLOATS || kind == DOUBLES ? 4 : 0;
        if (how == AS_FLOAT || how == AS_IT_IS && kind == FLOATS) {
            return floatBits(units, down);
        }
        if (how == AS_DOUBLE || how == AS_IT_IS && kind == DOUBLES) {
            return doubleBits(units, down);
        }
        return units;
    }

    /** floatToIntBits of units by 2 to the down, rounded as a cast rounds: to the nearest, of two to the even one. */
    private static long floatBits(long units, int down) {
        if (units <= 0) {
            return 0;
        }
        int top = 63 - Long.numberOfLeadingZeros(units);
        long kept = units << Math.max(0, 23 - top);
        if (top > 23) {
            int dropped = top - 23;
            kept = units >> dropped;
            long rest = units - (kept << dropped);
            long half = 1L << (dropped - 1);
            if (rest > half || rest == half && (kept & 1) == 1) {
                kept++;
            }
        }
        return withExponent(126 + top - down, 23, kept);
    }

    /** doubleToLongBits likewise; units have fewer bits than a double keeps. */
    private static long doubleBits(long units, int down) {
        if (units <= 0) {
            return 0;
        }
        int top = 63 - Long.numberOfLeadingZeros(units);
        return withExponent(1022 + top - down, 52, units << Math.max(0, 52 - top));
    }

    /** The leading bit of kept, which is not stored, raises the exponent by one, and so does a carry of rounding. */
    private static long withExponent(int exponent, int width, long kept) {
        return ((long) exponent << width) + kept;
    }

    /** One recorder. Units stand in longs whatever the kind of their page: only the kind's number tells its row. */
    private static final class Ledger {
        private boolean made;
        private int sort;
        private int digits;
        private int slots;
        private int pages;
        private long highest;
        private final long[] units = new long[PLACES * MOST_PAGES];
        private final int[] kinds = new int[MOST_PAGES];
        private final int[] rows = new int[MOST_PAGES];
        /** Numbers of examples and names, each one more than it is; 0 where there is none. */
        private final int[] marks = new int[PLACES * MOST_PAGES];

        void open(int newSort, int newDigits, long newHighest) {
            made = true;
            sort = newSort;
            digits = newDigits;
            highest = newHighest;
            slots = Math.min(slotOf(newDigits, newHighest) + 1, units.length);
            pages = Math.min((slots + PLACES - 1) / PLACES, kinds.length);
            clear();
        }

        void clear() {
            Arrays.fill(units, 0L);
            Arrays.fill(kinds, EMPTY);
            Arrays.fill(rows, EMPTY);
            Arrays.fill(marks, 0);
        }

        /** Beyond the pages of a recorder nothing is ever looked at before open clears it. */
        void become(Ledger other) {
            made = other.made;
            sort = other.sort;
            digits = other.digits;
            slots = other.slots;
            pages = other.pages;
            highest = other.highest;
            int used = Math.max(0, Math.min(pages, MOST_PAGES));
            System.arraycopy(other.units, 0, units, 0, PLACES * used);
            System.arraycopy(other.kinds, 0, kinds, 0, used);
            System.arraycopy(other.rows, 0, rows, 0, used);
            System.arraycopy(other.marks, 0, marks, 0, PLACES * used);
        }

        boolean reaches(long v) {
            return v >= 0 && v <= highest;
        }

        boolean hasPage(int page) {
            return page >= 0 && page < pages;
        }

        long unitsOf(int place) {
            return place < 0 || place >= units.length ? 0 : units[place];
        }

        int kindOf(int page) {
            return page < 0 || page >= kinds.length ? EMPTY : kinds[page];
        }

        int rowOf(int page) {
            return page < 0 || page >= rows.length ? EMPTY : rows[page];
        }

        int markOf(int place) {
            return place < 0 || place >= marks.length ? NONE : marks[place] - 1;
        }

        void putRow(int page, int row) {
            if (page >= 0 && page < rows.length) {
                rows[page] = row;
            }
        }

        void putMark(int place, int w) {
            if (place >= 0 && place < marks.length) {
                marks[place] = w + 1;
            }
        }

        int marksInAll() {
            int found = 0;
            for (int place = 0; place < PLACES * pages; place++) {
                if (markOf(place) != NONE) {
                    found++;
                }
            }
            return found;
        }

        // ---- kinds

        void rewrite(int place, long now) {
            if (place < 0 || place >= units.length || units[place] == now) {
                return;
            }
            int page = place / PLACES;
            if (page < kinds.length) {
                kinds[page] = rowToWrite(page, now);
            }
            units[place] = now;
        }

        private int rowToWrite(int page, long now) {
            int kind = kindOf(page);
            boolean isRow = kind >= BOOLEANS && kind <= DOUBLES;
            return rowThatHolds(isRow ? kind : rowThatHolds(firstRow(), mostOf(page)), now);
        }

        private int firstRow() {
            return sort == COUNTS ? BOOLEANS : FLOATS;
        }

        private int rowThatHolds(int from, long most) {
            int last = sort == COUNTS ? LONGS : DOUBLES;
            for (int kind = Math.max(0, from); kind < last && kind < HOLDS.length; kind++) {
                if (HOLDS[kind] >= most) {
                    return kind;
                }
            }
            return last;
        }

        private long mostOf(int page) {
            long most = 0;
            for (int k = 0; k < PLACES; k++) {
                most = Math.max(most, unitsOf(PLACES * page + k));
            }
            return most;
        }

        private boolean isLevel(int page) {
            for (int k = 1; k < PLACES; k++) {
                if (unitsOf(PLACES * page + k) != unitsOf(PLACES * page)) {
                    return false;
                }
            }
            return true;
        }

        private int shelfOf(int page) {
            long most = mostOf(page);
            if (most == 0) {
                return EMPTY;
            }
            if (isLevel(page)) {
                return LEVEL;
            }
            return sort == COUNTS && most <= LETTERS ? TEXT : rowThatHolds(firstRow(), most);
        }

        int shelveAll() {
            int changed = 0;
            for (int page = 0; page < pages && page < kinds.length; page++) {
                int kind = kinds[page] == EMPTY ? EMPTY : shelfOf(page);
                if (kind != kinds[page]) {
                    kinds[page] = kind;
                    changed++;
                }
            }
            return changed;
        }

        int bytesOfPages() {
            int sum = 0;
            for (int page = 0; page < pages; page++) {
                int kind = kindOf(page);
                sum += kind >= 0 && kind < BYTES.length ? BYTES[kind] : 0;
            }
            return sum;
        }

        // ---- walks over the slots: a page of no kind has none that is not 0, and is left out

        /** The slot behind the last one of a page; places behind the last slot of all are none. */
        private int endOf(int page) {
            return kindOf(page) == EMPTY ? PLACES * page : Math.min(slots, PLACES * page + PLACES);
        }

        long unitsAhead(int s) {
            long sum = 0;
            for (int page = 0; page < pages; page++) {
                int end = Math.min(s, endOf(page));
                for (int k = PLACES * page; k < end; k++) {
                    sum += unitsOf(k);
                }
            }
            return sum;
        }

        long allUnits() {
            return unitsAhead(slots);
        }

        int usedSlots() {
            int used = 0;
            for (int page = 0; page < pages; page++) {
                int end = endOf(page);
                for (int s = PLACES * page; s < end; s++) {
                    used += unitsOf(s) == 0 ? 0 : 1;
                }
            }
            return used;
        }

        private int firstUsed() {
            for (int page = 0; page < pages; page++) {
                int end = endOf(page);
                for (int s = PLACES * page; s < end; s++) {
                    if (unitsOf(s) != 0) {
                        return s;
                    }
                }
            }
            return NONE;
        }

        int lastUsed() {
            for (int page = pages - 1; page >= 0; page--) {
                for (int s = endOf(page) - 1; s >= PLACES * page; s--) {
                    if (unitsOf(s) != 0) {
                        return s;
                    }
                }
            }
            return NONE;
        }

        long least() {
            return lowOf(digits, Math.max(0, firstUsed()));
        }

        long greatest() {
            return cappedHigh(Math.max(0, lastUsed()));
        }

        private long cappedHigh(int s) {
            return Math.min(highest, highOf(digits, s));
        }

        /** The value of the first slot with which there are so many units. */
        long valueWith(long wanted) {
            long sum = 0;
            for (int page = 0; page < pages; page++) {
                int end = endOf(page);
                for (int s = PLACES * page; s < end; s++) {
                    sum += unitsOf(s);
                    if (sum >= wanted) {
                        return cappedHigh(s);
                    }
                }
            }
            return highest;
        }

        long mean() {
            Products products = new Products();
            for (int page = 0; page < pages; page++) {
                int end = endOf(page);
                for (int s = PLACES * page; s < end; s++) {
                    products.include(middleOf(digits, s), unitsOf(s));
                }
            }
            return products.dividedBy(allUnits());
        }

        boolean isLike(Ledger other) {
            if (sort != other.sort || digits != other.digits || highest != other.highest) {
                return false;
            }
            for (int page = 0; page < pages; page++) {
                int end = Math.max(endOf(page), other.endOf(page));
                for (int s = PLACES * page; s < end; s++) {
                    if (unitsOf(s) != other.unitsOf(s)) {
                        return false;
                    }
                }
            }
            return true;
        }

        // ---- recording

        /**
         * Records v and what was awaited ahead of it, all that come to one slot at once; not for real, it only tells
         * whether that can be.
         */
        boolean pour(long v, long n, long interval, boolean forReal) {
            if (!reaches(v) || interval > 0 && v / interval - 1 > MOST_AWAITED) {
                return false;
            }
            long x = v;
            for (int k = 0; k <= MOST_AWAITED; k++) {
                int s = slotOf(digits, x);
                long many = awaitedIn(s, x, interval);
                long now = unitsOf(s) + many * n;
                if (now > MOST_UNITS) {
                    return false;
                }
                if (forReal) {
                    rewrite(s, now);
                }
                x -= many * interval;
                if (interval == 0 || x < interval) {
                    return true;
                }
            }
            return true;
        }

        /** How many of x, x - interval, .. are of the slot s of x and not below the interval: x itself at least. */
        private long awaitedIn(int s, long x, long interval) {
            long floor = Math.max(lowOf(digits, s), interval);
            return interval <= 0 || x < floor ? 1 : (x - floor) / interval + 1;
        }

        // ---- adding, taking off, halving

        boolean canMerge(Ledger from, int sign) {
            int last = from.lastUsed();
            if (sort != from.sort || last != NONE && lowOf(from.digits, last) > highest) {
                return false;
            }
            int target = NONE;
            long sum = 0;
            for (int page = 0; page < from.pages; page++) {
                int end = from.endOf(page);
                for (int s = PLACES * page; s < end; s++) {
                    long moved = from.unitsOf(s);
                    // slots of finer digits that share a target stand side by side, so one sum serves
                    int t = moved == 0 ? target : slotOf(digits, lowOf(from.digits, s));
                    sum = (t == target ? sum : unitsOf(t)) + sign * moved;
                    target = t;
                    if (sum < 0 || sum > MOST_UNITS) {
                        return false;
                    }
                }
            }
            return true;
        }

        /** Slot by slot, each target before the next slot is looked at: so from may be this one. */
        void mergeFrom(Ledger from, int sign) {
            for (int page = 0; page < from.pages; page++) {
                int end = from.endOf(page);
                for (int s = PLACES * page; s < end; s++) {
                    long moved = from.unitsOf(s);
                    if (moved != 0) {
                        int t = slotOf(digits, lowOf(from.digits, s));
                        rewrite(t, unitsOf(t) + sign * moved);
                    }
                }
            }
        }

        void halveAll() {
            for (int page = 0; page < pages; page++) {
                int end = endOf(page);
                for (int s = PLACES * page; s < end; s++) {
                    rewrite(s, unitsOf(s) / 2);
                }
            }
        }

        // ---- packing

        boolean packTo(Tape out) {
            boolean fits = out.append(Tape.FIRST) && out.append(sort) && out.append(digits)
                && out.appendNumber(highest);
            long zeros = 0;
            int last = lastUsed();
            for (int s = 0; s <= last && fits; s++) {
                long here = unitsOf(s);
                if (here == 0) {
                    zeros++;
                } else {
                    fits = (zeros == 0 || out.appendNumber(2 * zeros - 1)) && out.appendNumber(2 * here);
                    zeros = 0;
                }
            }
            return fits;
        }
    }

    /**
     * A sum of products of values (below 2 to the 40) and units (below 2 to the 50), wider than a long: both are cut
     * in two, so that four sums of narrow products stay within longs.
     */
    private static final class Products {
        private static final int VALUE_CUT = 20;
        private static final int UNITS_CUT = 25;
        private static final int CUT = VALUE_CUT + UNITS_CUT;
        private long highHigh;
        private long highLow;
        private long lowHigh;
        private long lowLow;

        void include(long value, long units) {
            long valueHigh = value >> VALUE_CUT;
            long valueLow = value & (1L << VALUE_CUT) - 1;
            long unitsHigh = units >> UNITS_CUT;
            long unitsLow = units & (1L << UNITS_CUT) - 1;
            highHigh += valueHigh * unitsHigh;
            highLow += valueHigh * unitsLow;
            lowHigh += valueLow * unitsHigh;
            lowLow += valueLow * unitsLow;
        }

        /** Downwards. The divisor is below 2 to the 62, so that twice a rest fits into a long. */
        long dividedBy(long divisor) {
            if (divisor <= 0) {
                return NONE;
            }
            long low = ((highLow & (1L << UNITS_CUT) - 1) << VALUE_CUT)
                + ((lowHigh & (1L << VALUE_CUT) - 1) << UNITS_CUT) + lowLow;
            long high = highHigh + (highLow >> UNITS_CUT) + (lowHigh >> VALUE_CUT) + (low >> CUT);
            long quotient = high / divisor;
            long rest = high % divisor;
            for (int bit = CUT - 1; bit >= 0; bit--) {
                rest = 2 * rest + (low >> bit & 1);
                quotient = 2 * quotient + (rest >= divisor ? 1 : 0);
                rest -= rest >= divisor ? divisor : 0;
            }
            return quotient;
        }
    }

    /** Recorders 0 and 1: which is active, which rests, and who writes to which. */
    private static final class Pair {
        private int active;
        private int rests = NONE;
        private final int[] writers = new int[WRITERS];

        Pair() {
            Arrays.fill(writers, NONE);
        }

        void become(Pair other) {
            active = other.active;
            rests = other.rests;
            for (int k = 0; k < WRITERS; k++) {
                setRecorderOf(k, other.recorderOf(k));
            }
        }

        int recorderOf(int writer) {
            return writer < 0 || writer >= writers.length ? NONE : writers[writer];
        }

        void setRecorderOf(int writer, int recorder) {
            if (writer >= 0 && writer < writers.length) {
                writers[writer] = recorder;
            }
        }

        boolean isWrittenTo(int recorder) {
            for (int k = 0; k < WRITERS; k++) {
                if (recorderOf(k) == recorder) {
                    return true;
                }
            }
            return false;
        }

        int writerBits() {
            int bits = 0;
            for (int k = 0; k < WRITERS; k++) {
                if (recorderOf(k) != NONE) {
                    bits |= 1 << k;
                }
            }
            return bits;
        }
    }

    /** What stood before an act: the recorder that it changes (or NONE), and the pair. */
    private static final class Step {
        private int recorder = NONE;
        private final Ledger ledger = new Ledger();
        private final Pair pair = new Pair();
    }

    /** The last steps, in a ring that is made once: nothing is made for an act. */
    private static final class History {
        private final Step[] steps = new Step[UNDOABLE];
        private int next;
        private int known;

        History() {
            for (int k = 0; k < steps.length; k++) {
                steps[k] = new Step();
            }
        }

        Step another() {
            Step step = stepAt(next);
            next = (next + 1) % UNDOABLE;
            known = Math.min(known + 1, UNDOABLE);
            return step;
        }

        Step takeLast() {
            if (known == 0) {
                return null;
            }
            known--;
            next = (next + UNDOABLE - 1) % UNDOABLE;
            return stepAt(next);
        }

        private Step stepAt(int k) {
            return k < 0 || k >= steps.length ? null : steps[k];
        }
    }

    /** A row of bytes (0 to 255), 400 at most. */
    private static final class Tape {
        private static final int FIRST = 165;
        private static final int MOST_OF_NUMBER = 9;
        private final int[] bytes = new int[MOST_BYTES];
        private int length;

        int byteAt(int k) {
            return k < 0 || k >= length || k >= bytes.length ? NONE : bytes[k];
        }

        boolean append(int octet) {
            if (length < 0 || length >= bytes.length) {
                return false;
            }
            bytes[length] = octet;
            length++;
            return true;
        }

        void appendInt(int x) {
            append(x >> 24 & 255);
            append(x >> 16 & 255);
            append(x >> 8 & 255);
            append(x & 255);
        }

        boolean appendNumber(long x) {
            long rest = x;
            for (int k = 1; k < MOST_OF_NUMBER && rest > 127; k++) {
                if (!append((int) (rest & 127) + 128)) {
                    return false;
                }
                rest >>= 7;
            }
            return append((int) (rest & 127));
        }

        void become(Tape other) {
            length = Math.max(0, Math.min(other.length, bytes.length));
            System.arraycopy(other.bytes, 0, bytes, 0, length);
        }
    }

    /** Reads a tape as a packed recorder: first for its fault, then, if there is none, into a ledger. */
    private static final class Unpacking {
        private static final int ENDS = 1;
        private static final int BAD_NUMBER = 2;
        private static final int BAD_SLOTS = 3;
        private static final int ZEROS_LAST = 4;
        private final Tape tape;
        private int place;
        private int fault;
        private int sort;
        private int digits;
        private long highest;

        Unpacking(Tape tape) {
            this.tape = tape;
        }

        /** 0: none. */
        int faultOfAll() {
            readHead();
            if (fault == 0) {
                checkSlots(slotOf(digits, highest) + 1);
            }
            return fault;
        }

        void fill(Ledger ledger) {
            readHead();
            ledger.open(sort, digits, highest);
            long s = 0;
            for (int k = 0; k < MOST_BYTES && place < tape.length; k++) {
                long x = nextNumber();
                if (isZeros(x)) {
                    s += slotsOf(x);
                } else {
                    ledger.rewrite((int) s, x / 2);
                    s++;
                }
            }
            ledger.shelveAll();
        }

        private void readHead() {
            place = 0;
            if (nextByte(Tape.FIRST, Tape.FIRST) == NONE) {
                return;
            }
            sort = nextByte(COUNTS, WEIGHTS);
            if (sort == NONE) {
                return;
            }
            digits = nextByte(1, 2);
            if (digits == NONE) {
                return;
            }
            int start = place;
            highest = nextNumber();
            if (fault == 0 && !isSetting(sort, digits, highest)) {
                fail(start, BAD_NUMBER);
            }
        }

        private void checkSlots(int slots) {
            long s = 0;
            int zerosFrom = NONE;
            for (int k = 0; k < MOST_BYTES && place < tape.length; k++) {
                int start = place;
                long x = nextNumber();
                if (fault != 0) {
                    return;
                }
                if (!isZeros(x) && x / 2 > MOST_UNITS) {
                    fail(start, BAD_NUMBER);
                    return;
                }
                if (x == 0 || slotsOf(x) > slots - s || isZeros(x) && zerosFrom != NONE) {
                    fail(start, BAD_SLOTS);
                    return;
                }
                s += slotsOf(x);
                zerosFrom = isZeros(x) ? start : NONE;
            }
            if (zerosFrom != NONE) {
                fail(zerosFrom, ZEROS_LAST);
            }
        }

        private static boolean isZeros(long x) {
            return (x & 1) == 1;
        }

        private static long slotsOf(long x) {
            return isZeros(x) ? x / 2 + 1 : 1;
        }

        private int nextByte(int least, int most) {
            int octet = tape.byteAt(place);
            if (octet < least || octet > most) {
                fail(place, ENDS);
                return NONE;
            }
            place++;
            return octet;
        }

        private long nextNumber() {
            int start = place;
            long x = 0;
            for (int k = 0; k < Tape.MOST_OF_NUMBER; k++) {
                int octet = tape.byteAt(place);
                if (octet == NONE) {
                    fail(place, ENDS);
                    return 0;
                }
                place++;
                x |= (octet & 127L) << (7 * k);
                if (octet < 128) {
                    return x;
                }
            }
            fail(start, BAD_NUMBER);
            return 0;
        }

        private void fail(int where, int code) {
            fault = 8 * where + code;
        }
    }
}
