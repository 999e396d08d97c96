import java.util.function.ToLongBiFunction;

/** What Terms I and promises 1, 5, 6, 7, 34 say of recorders, sorts, digits, highest values and slots, at each boundary. */
public final class EdgeRecordersTest {
    private static final long TOP = 1000000000000L;
    private static final long MOST = 1000000000000000L;
    private static final long MAX = Long.MAX_VALUE;
    private static final long MIN = Long.MIN_VALUE;
    private static final int[] OUTSIDE = {-1, 4, 5, 256, Integer.MIN_VALUE, Integer.MAX_VALUE};

    public static void main(String[] args) {
        newObject();
        recordersAre0To3();
        recordersThatWereNeverMade();
        sortsAre0And1();
        digitsAre1And2();
        highestIs1000To10To12();
        emptyInPlaceOfWhatIsThere();
        settingsAre0To4();
        valuesAreZeroOrMore();
        shiftIsZeroIfThereAreNotMoreBits();
        aSlotHasAllValuesFromLowToHigh();
        middleIsDownwards();
        edgesAre0To2();
        slotsEndWithThatOfHighest();
        unitsInASlot();
        calls512();
        Due.finish();
    }

    private static TailRecorder made(int... recorders) {
        TailRecorder x = new TailRecorder();
        for (int r : recorders) {
            x.make(r, 0, 1, 1000);
            x.record(r, 5, 1, 0);
        }
        return x;
    }

    private static void newObject() {
        Due.sentence("1: no recorders");
        Due.row("counts", Due.counts(new TailRecorder()), 0, 0, 0, -1, 0, 0);
        Due.due("what is not there can't be undone", new TailRecorder().undo(), -1);
        Due.sentence("NONE = -1");
        Due.due("NONE", TailRecorder.NONE, -1);
    }

    /** A call of one recorder, what it answers where made() made that, and what without it. */
    private static void each(int[] recorders, boolean isThere, String call, long there, ToLongBiFunction<TailRecorder, Integer> of) {
        long without = call.startsWith("peek") ? MIN : -1;
        for (int r : recorders) {
            TailRecorder x = isThere ? made(0, 1, 2, 3) : r == 2 ? made(0, 1, 3) : made(0, 1, 2, 3);
            Due.fill(x, 165, 0, 1, 232, 7);
            Due.due(call + " of recorder " + r, of.applyAsLong(x, r), isThere ? there : without);
        }
    }

    private static void ofRecorders(int[] recorders, boolean isThere) {
        each(recorders, isThere, "record", 2, (x, r) -> x.record(r, 5, 1, 0));
        each(recorders, isThere, "at", 1, (x, r) -> x.at(r, 5));
        each(recorders, isThere, "below", 1, (x, r) -> x.below(r, 6));
        each(recorders, isThere, "total", 1, (x, r) -> x.total(r));
        each(recorders, isThere, "rank", 5, (x, r) -> x.rank(r, 0));
        each(recorders, isThere, "about", 5, (x, r) -> x.about(r, 0));
        each(recorders, isThere, "add to", 2, (x, r) -> x.add(r, 0));
        each(recorders, isThere, "add of", 2, (x, r) -> x.add(0, r));
        each(recorders, isThere, "takeOff from", 0, (x, r) -> x.takeOff(r, 0));
        each(recorders, isThere, "takeOff of", 0, (x, r) -> x.takeOff(0, r));
        each(recorders, isThere, "halve", 0, (x, r) -> x.halve(r));
        each(recorders, isThere, "shelve", 1, (x, r) -> x.shelve(r));
        each(recorders, isThere, "kind, pages", 7, (x, r) -> x.kind(r, -1));
        each(recorders, isThere, "kind", 1, (x, r) -> x.kind(r, 0));
        each(recorders, isThere, "room", 16, (x, r) -> x.room(r));
        each(recorders, isThere, "peek", 1, (x, r) -> x.peek(r, 0, 0, 5, 0));
        each(recorders, isThere, "poke", 0, (x, r) -> x.poke(r, 0, 0, 5, 1, 0));
        each(recorders, isThere, "example", 0, (x, r) -> x.example(r, 5, false, 1));
        each(recorders, isThere, "examples", 0, (x, r) -> x.examples(r));
        each(recorders, isThere, "pack", 7, (x, r) -> x.pack(r));
        each(recorders, isThere, "same, first", 1, (x, r) -> x.same(r, 0));
        each(recorders, isThere, "same, second", 1, (x, r) -> x.same(0, r));
        each(recorders, isThere, "setting", 1000, (x, r) -> x.setting(r, 2));
    }

    private static void recordersAre0To3() {
        Due.sentence("RECORDERS 0 to 3");
        ofRecorders(new int[] {0, 1, 2, 3}, true);
        ofRecorders(OUTSIDE, false);
        each(new int[] {0, 1, 2, 3}, true, "make", 112, (x, r) -> x.make(r, 0, 1, 1000));
        each(OUTSIDE, false, "make", 112, (x, r) -> x.make(r, 0, 1, 1000));
        each(new int[] {0, 1, 2, 3}, true, "unpack", 112, (x, r) -> x.unpack(r));
        each(OUTSIDE, false, "unpack", 112, (x, r) -> x.unpack(r));
    }

    private static void recordersThatWereNeverMade() {
        Due.sentence("NONE without that RECORDER");
        ofRecorders(new int[] {2}, false);
        Due.row("made by the call", new long[] {made(0).make(2, 0, 1, 1000), made(0, 2).count(0), made(3).count(0), made(0, 1, 2, 3).count(0)}, 112, 5, 8, 15);
    }

    private static void sortsAre0And1() {
        Due.sentence("SORT (0 counts, 1 weights)");
        TailRecorder x = new TailRecorder();
        Due.row("make", new long[] {
            x.make(0, -1, 1, 1000), x.make(0, 2, 1, 1000), x.make(0, Integer.MIN_VALUE, 1, 1000), x.make(0, Integer.MAX_VALUE, 1, 1000), x.count(0),
            x.make(0, 0, 1, 1000), x.setting(0, 0), x.make(0, 1, 1, 1000), x.setting(0, 0), x.make(0, 2, 1, 1000), x.setting(0, 0)},
            -1, -1, -1, -1, 0, 112, 0, 112, 1, -1, 1);
    }

    private static void digitsAre1And2() {
        Due.sentence("DIGITS (1, 2)");
        TailRecorder x = new TailRecorder();
        Due.row("make", new long[] {
            x.make(0, 0, 0, 1000), x.make(0, 0, 3, 1000), x.make(0, 0, -1, 1000), x.make(0, 0, Integer.MAX_VALUE, 1000), x.count(0),
            x.make(0, 0, 1, 1000), x.setting(0, 1), x.make(0, 0, 2, 1000), x.setting(0, 1), x.make(0, 0, 3, 1000), x.setting(0, 1)},
            -1, -1, -1, -1, 0, 112, 1, 507, 2, -1, 2);
        Due.row("slot", new long[] {x.slot(0, 1000), x.slot(1, 1000), x.slot(2, 1000), x.slot(3, 1000), x.slot(Integer.MIN_VALUE, 1000)}, -1, 111, 506, -1, -1);
        Due.row("edge", new long[] {x.edge(0, 1000, 0), x.edge(1, 1000, 0), x.edge(2, 1000, 0), x.edge(3, 1000, 0), x.edge(Integer.MAX_VALUE, 1000, 0)}, -1, 992, 1000, -1, -1);
    }

    private static void highestIs1000To10To12() {
        Due.sentence("HIGHEST (1000 to 1000000000000)");
        TailRecorder x = new TailRecorder();
        Due.row("make", new long[] {
            x.make(0, 0, 1, 999), x.make(0, 0, 1, TOP + 1), x.make(0, 0, 1, 0), x.make(0, 0, 1, -1), x.make(0, 0, 1, -1000), x.make(0, 0, 1, MIN), x.make(0, 0, 1, MAX),
            x.count(0), x.make(0, 0, 1, 1000), x.setting(0, 2), x.make(0, 0, 1, TOP), x.setting(0, 2), x.make(0, 0, 2, TOP), x.setting(0, 2), x.make(0, 0, 2, TOP + 1),
            x.setting(0, 2)},
            -1, -1, -1, -1, -1, -1, -1, 0, 112, 1000, 590, TOP, 4329, TOP, -1, TOP);
    }

    private static void emptyInPlaceOfWhatIsThere() {
        Due.sentence("5: a RECORDER is MADE, empty, in place of what is there");
        TailRecorder x = new TailRecorder();
        x.make(0, 0, 2, TOP);
        x.record(0, 5, 300, 0);
        x.record(0, TOP, 3, 0);
        x.example(0, TOP, true, 1);
        Due.row("a small one for a large one", new long[] {x.make(0, 1, 1, 1000), x.total(0), x.room(0), x.examples(0), x.kind(0, -1), x.kind(0, 0), x.kind(0, 7), x.setting(0, 4)},
            112, 0, 0, 0, 7, 0, -1, 0);
        Due.row("a large one again", new long[] {x.make(0, 0, 2, TOP), x.total(0), x.room(0), x.examples(0), x.kind(0, -1), x.at(0, TOP), x.peek(0, 1, 270, 8, 0), x.below(0, TOP)},
            4329, 0, 0, 0, 271, 0, -4, 0);
    }

    private static void settingsAre0To4() {
        Due.sentence("34: what 0: SORT, 1: DIGITS, 2: HIGHEST, 3: SLOTS, 4: SLOTS that are not 0. NONE without these");
        TailRecorder x = new TailRecorder();
        x.make(1, 1, 2, 1003);
        Due.row("setting", new long[] {
            x.setting(1, -1), x.setting(1, 0), x.setting(1, 1), x.setting(1, 2), x.setting(1, 3), x.setting(1, 4), x.setting(1, 5), x.setting(1, Integer.MIN_VALUE),
            x.setting(1, Integer.MAX_VALUE)}, -1, 1, 2, 1003, 507, 0, -1, -1, -1);
        x.record(1, 0, 1, 0);
        x.record(1, 1003, 1, 0);
        x.record(1, 16, 1, 0);
        Due.due("the first slot, the last and one between", x.setting(1, 4), 3);
        x.halve(1);
        Due.due("none of them any more", x.setting(1, 4), 0);
        for (int k = 0; k < 5; k++) Due.due("of a recorder never made, what " + k, x.setting(0, k), -1);
    }

    private static void valuesAreZeroOrMore() {
        Due.sentence("the SLOT of a value v (0 or more)");
        TailRecorder x = new TailRecorder();
        Due.row("slot", new long[] {x.slot(1, -1), x.slot(1, 0), x.slot(1, MAX), x.slot(2, -1), x.slot(2, 0), x.slot(2, MAX), x.slot(1, MIN), x.slot(2, MIN), x.slot(1, Integer.MIN_VALUE)},
            -1, 0, 58 * 16 + 31, -1, 0, 55 * 128 + 255, -1, -1, -1);
        Due.row("edge", new long[] {x.edge(1, -1, 0), x.edge(1, -1, 1), x.edge(2, -1, 2), x.edge(2, MIN, 0), x.edge(1, 0, 0), x.edge(1, 0, 1), x.edge(2, 0, 2)}, -1, -1, -1, -1, 0, 0, 0);
    }

    private static void shiftIsZeroIfThereAreNotMoreBits() {
        Due.sentence("SHIFT is how many bits v has beyond BITS (0 if it has not more)");
        TailRecorder x = new TailRecorder();
        Due.row("5 bits for 1 digit", new long[] {
            x.slot(1, 15), x.slot(1, 16), x.slot(1, 30), x.slot(1, 31), x.slot(1, 32), x.slot(1, 33), x.slot(1, 34), x.slot(1, 63), x.slot(1, 64), x.slot(1, 67), x.slot(1, 68)},
            15, 16, 30, 31, 32, 32, 33, 47, 48, 48, 49);
        Due.row("8 bits for 2", new long[] {
            x.slot(2, 31), x.slot(2, 32), x.slot(2, 127), x.slot(2, 128), x.slot(2, 254), x.slot(2, 255), x.slot(2, 256), x.slot(2, 257), x.slot(2, 258), x.slot(2, 511), x.slot(2, 512),
            x.slot(2, 515), x.slot(2, 516)}, 31, 32, 127, 128, 254, 255, 256, 256, 257, 383, 384, 384, 385);
        Due.row("edges", new long[] {
            x.edge(1, 31, 0), x.edge(1, 31, 1), x.edge(1, 32, 0), x.edge(1, 32, 1), x.edge(1, 64, 1), x.edge(2, 255, 0), x.edge(2, 255, 1), x.edge(2, 256, 0), x.edge(2, 256, 1),
            x.edge(2, 512, 1)}, 31, 31, 32, 33, 67, 255, 255, 256, 257, 515);
    }

    private static void aSlotHasAllValuesFromLowToHigh() {
        Due.sentence("a SLOT has all values from LOW to HIGH that have it");
        for (int digits = 1; digits <= 2; digits++) {
            for (int bit = 0; bit < 63; bit++) {
                TailRecorder x = new TailRecorder();
                long v = (1L << bit) + (1L << bit) / 3;
                int s = x.slot(digits, v);
                long low = x.edge(digits, v, 0);
                long high = x.edge(digits, v, 1);
                Due.row("of " + v + " by " + digits, new long[] {
                    x.slot(digits, low), x.slot(digits, high), low == 0 ? s - 1 : x.slot(digits, low - 1), high == MAX ? s + 1 : x.slot(digits, high + 1),
                    x.edge(digits, low, 1), x.edge(digits, high, 0)}, s, s, s - 1, s + 1, high, low);
            }
        }
        TailRecorder x = new TailRecorder();
        Due.row("of the highest value", new long[] {x.edge(1, MAX, 0), x.edge(1, MAX, 1), x.edge(2, MAX, 0), x.edge(2, MAX, 1)}, 31L << 58, MAX, 255L << 55, MAX);
    }

    private static void middleIsDownwards() {
        Due.sentence("MIDDLE is (LOW and HIGH) / 2, downwards");
        TailRecorder x = new TailRecorder();
        Due.row("a width of 1, 2, 4, 8", new long[] {x.edge(1, 31, 2), x.edge(1, 33, 2), x.edge(1, 64, 2), x.edge(1, 128, 2), x.edge(2, 257, 2), x.edge(2, 512, 2)}, 31, 32, 65, 131, 256, 513);
        Due.row("wider than a long together", new long[] {x.edge(1, MAX, 2), x.edge(2, MAX, 2)}, (31L << 58) + (1L << 57) - 1, (255L << 55) + (1L << 54) - 1);
    }

    private static void edgesAre0To2() {
        Due.sentence("LOW (what 0), HIGH (1), MIDDLE (2); NONE without these");
        TailRecorder x = new TailRecorder();
        Due.row("edge", new long[] {
            x.edge(1, 70, -1), x.edge(1, 70, 0), x.edge(1, 70, 1), x.edge(1, 70, 2), x.edge(1, 70, 3), x.edge(1, 70, Integer.MIN_VALUE), x.edge(1, 70, Integer.MAX_VALUE)},
            -1, 68, 71, 69, -1, -1, -1);
    }

    private static void slotsEndWithThatOfHighest() {
        Due.sentence("a RECORDER has SLOTS 0 to that of HIGHEST");
        TailRecorder x = new TailRecorder();
        Due.row("by 1 digit", new long[] {x.make(0, 0, 1, 1000), x.make(0, 0, 1, 1023), x.make(0, 0, 1, 1024), x.make(0, 0, 1, 1087), x.make(0, 0, 1, 1088)}, 112, 112, 113, 113, 114);
        Due.row("by 2", new long[] {x.make(1, 0, 2, 1000), x.make(1, 0, 2, 1003), x.make(1, 0, 2, 1004), x.make(1, 0, 2, 1023), x.make(1, 0, 2, 1024)}, 507, 507, 508, 512, 513);
        Due.row("setting", new long[] {x.setting(0, 3), x.setting(1, 3)}, 114, 513);
    }

    /** A recorder whose slot of 5 has the most that it may: 2 * 10^15 as a number, behind a row of five zeros. */
    private static TailRecorder full(int sort) {
        TailRecorder x = new TailRecorder();
        Due.fill(x, 165, sort, 1, 232, 7, 9, 128, 128, 180, 204, 212, 223, 198, 3);
        x.unpack(0);
        x.make(1, sort, 1, 1000);
        x.record(1, 5, 1, 0);
        return x;
    }

    private static void unitsInASlot() {
        Due.sentence("UNITS, in a SLOT 1000000000000000 at most");
        for (int sort = 0; sort < 2; sort++) {
            TailRecorder x = full(sort);
            Due.row("one more", new long[] {x.at(0, 5), x.record(0, 5, 1, 0), x.add(0, 1), x.add(0, 0), x.record(0, 10, 1, 5), x.at(0, 5), x.total(0)}, MOST, -2, -2, -2, -2, MOST, MOST);
            Due.row("as many by record", new long[] {x.takeOff(0, 1), x.record(0, 5, 2, 0), x.at(0, 5), x.record(0, 5, 1, 0), x.record(0, 5, 1, 0)}, MOST - 1, -2, MOST - 1, MOST, -2);
            Due.row("as many by add", new long[] {x.takeOff(0, 1), x.add(0, 1), x.add(0, 1), x.at(0, 5)}, MOST - 1, MOST, -2, MOST);
            Due.row("as many by an interval", new long[] {x.takeOff(0, 1), x.record(0, 10, 1, 5), x.at(0, 5), x.record(0, 10, 1, 5), x.at(0, 10)}, MOST - 1, 1, MOST, -2, 1);
            x.begin(0);
            Due.row("as many by write", new long[] {x.takeOff(0, 1), x.write(0, 5, 1, 0), x.write(0, 5, 1, 0), x.at(0, 5)}, MOST, MOST, -2, MOST);
            Due.row("as many by adding itself", new long[] {x.halve(0), x.add(0, 0), x.add(0, 0), x.at(0, 5)}, MOST / 2, MOST, -2, MOST);
            Due.row("another slot has room", new long[] {x.record(0, 6, TOP, 0), x.total(0)}, TOP, MOST + TOP);
        }
    }

    private static void calls512() {
        Due.sentence("an object is used for at most 512 calls");
        TailRecorder x = new TailRecorder();
        x.make(0, 1, 2, TOP);
        x.make(1, 1, 2, TOP);
        for (int k = 0; k < 100; k++) {
            x.record(0, TOP - k, 1, (TOP - k) / 1001);
            x.add(1, 0);
            x.unpack(2);
            x.about(1, 2);
            x.undo();
        }
        for (int k = 0; k < 9; k++) x.shelve(0);
        Due.due("call 512", x.total(0), 100 * 1001);
    }
}
