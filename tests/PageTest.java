/** Promises 17 shelve, 18 kind, 19 room, 20 peek and 21 poke of pages. */
public final class PageTest {
    private static final long NO_PEEK = Long.MIN_VALUE;

    public static void main(String[] args) {
        kindsOfCounts();
        kindsOfWeights();
        shelving();
        writtenAfterShelving();
        rooms();
        peeks();
        roundedPeeks();
        pokes();
        behindTheLastSlot();
        withoutThese();
        Due.finish();
    }

    /** A recorder (two digits, so that 0 to 255 have slots of their own) whose first page has these units. */
    private static TailRecorder with(int sort, long... units) {
        TailRecorder x = new TailRecorder();
        x.make(0, sort, 2, 1000);
        for (int k = 0; k < units.length; k++) if (units[k] > 0) x.record(0, k, units[k], 0);
        return x;
    }

    private static void kindsOfCounts() {
        TailRecorder x = with(0);
        Due.due("none", x.kind(0, 0), 0);
        long[] more = {1, 1, 125, 1, 32639, 1, 32767, 1, 2147418111L, 1};
        long[] sums = new long[10];
        long[] kinds = new long[10];
        for (int k = 0; k < 10; k++) {
            sums[k] = x.record(0, 3, more[k], 0);
            kinds[k] = x.kind(0, 0);
        }
        Due.row("sums", sums, 1, 2, 127, 128, 32767, 32768, 65535, 65536, 2147483647L, 2147483648L);
        Due.row("kinds", kinds, 1, 2, 2, 3, 3, 4, 4, 5, 5, 6);
        x.takeOff(0, 0);
        Due.row("never narrower", new long[] {x.kind(0, 0), x.total(0), x.kind(0, 1)}, 6, 0, 0);
        Due.row("at once", new long[] {with(0, 1).kind(0, 0), with(0, 127).kind(0, 0), with(0, 128).kind(0, 0), with(0, 32768).kind(0, 0),
            with(0, 65536).kind(0, 0), with(0, 2147483648L).kind(0, 0), with(0, 0, 0, 1, 70000, 1).kind(0, 0)}, 1, 2, 3, 4, 5, 6, 5);
    }

    private static void kindsOfWeights() {
        TailRecorder x = with(1);
        Due.row("weights", new long[] {x.kind(0, 0), x.record(0, 3, 1, 0), x.kind(0, 0), x.record(0, 3, 1048575, 0), x.kind(0, 0), x.record(0, 3, 1, 0), x.kind(0, 0)},
            0, 1, 7, 1048576, 7, 1048577, 8);
        Due.row("never narrower", new long[] {x.halve(0), x.kind(0, 0)}, 524288, 8);
    }

    private static void shelving() {
        TailRecorder x = with(0, 5, 5, 5, 5, 5, 5, 5, 5, 5, 5, 5, 5, 5, 5, 5, 5, 65535, 0, 7);
        x.record(0, 32, 65536, 0);
        x.record(0, 33, 1, 0);
        x.record(0, 48, 3000000000L, 0);
        x.record(0, 64, 3, 0);
        x.make(1, 0, 2, 1000);
        x.record(1, 64, 3, 0);
        x.takeOff(0, 1);
        for (int v = 80; v < 96; v++) x.record(0, v, 3000000000L, 0);
        Due.row("kinds", new long[] {x.kind(0, 0), x.kind(0, 1), x.kind(0, 2), x.kind(0, 3), x.kind(0, 4), x.kind(0, 5), x.kind(0, 6)}, 2, 4, 5, 6, 2, 6, 0);
        Due.due("shelve", x.shelve(0), 4);
        Due.row("kinds", new long[] {x.kind(0, 0), x.kind(0, 1), x.kind(0, 2), x.kind(0, 3), x.kind(0, 4), x.kind(0, 5), x.kind(0, 6)}, 9, 10, 5, 6, 0, 9, 0);
        Due.row("again, an act too", new long[] {x.shelve(0), x.count(4), x.total(0)}, 0, 8, 80 + 65535 + 7 + 65537 + 3000000000L * 17);
        x.halve(0);
        Due.row("written, kinds", new long[] {x.kind(0, 0), x.kind(0, 1), x.kind(0, 2), x.kind(0, 3), x.kind(0, 5)}, 2, 4, 5, 6, 6);
        Due.row("narrower then", new long[] {x.shelve(0), x.kind(0, 0), x.kind(0, 1), x.kind(0, 2), x.kind(0, 3), x.kind(0, 5)}, 5, 9, 10, 10, 5, 9);
        TailRecorder w = with(1, 16, 16, 16, 16, 16, 16, 16, 16, 16, 16, 16, 16, 16, 16, 16, 16, 5, 6);
        w.record(0, 32, 1048577, 0);
        w.record(0, 48, 1048577, 0);
        w.halve(0);
        Due.row("weights", new long[] {w.kind(0, 0), w.kind(0, 1), w.kind(0, 2), w.kind(0, 3)}, 7, 7, 8, 8);
        Due.row("no text of weights", new long[] {w.shelve(0), w.kind(0, 0), w.kind(0, 1), w.kind(0, 2), w.kind(0, 3)}, 3, 9, 7, 7, 7);
    }

    /** Level and text become the first row that holds what there is, even if less is written. */
    private static void writtenAfterShelving() {
        long[] level = new long[16];
        java.util.Arrays.fill(level, 128);
        TailRecorder x = with(0, level);
        x.shelve(0);
        x.make(1, 0, 2, 1000);
        x.record(1, 3, 127, 0);
        Due.row("a level of 128", new long[] {x.kind(0, 0), x.takeOff(0, 1), x.kind(0, 0), x.at(0, 3)}, 9, 128 * 16 - 127, 3, 1);
        java.util.Arrays.fill(level, 1);
        x = with(0, level);
        x.shelve(0);
        Due.row("a level of 1, more written", new long[] {x.kind(0, 0), x.record(0, 0, 127, 0), x.kind(0, 0)}, 9, 128, 3);
        x = with(0, 1, 0, 1);
        x.shelve(0);
        Due.row("a text of 1 and 0, 1 written", new long[] {x.kind(0, 0), x.record(0, 1, 1, 0), x.kind(0, 0)}, 10, 1, 1);
        x = with(0, 65535);
        x.shelve(0);
        x.make(1, 0, 2, 1000);
        x.record(1, 0, 65535, 0);
        Due.row("a text of 65535, taken off", new long[] {x.kind(0, 0), x.takeOff(0, 1), x.kind(0, 0), x.shelve(0), x.kind(0, 0)}, 10, 0, 4, 1, 0);
        java.util.Arrays.fill(level, 1048577);
        x = with(1, level);
        x.shelve(0);
        Due.row("a level of weights", new long[] {x.kind(0, 0), x.halve(0), x.kind(0, 0), x.shelve(0), x.record(0, 0, 1, 0), x.kind(0, 0)}, 9, 524288 * 16, 8, 1, 524289, 7);
    }

    private static void rooms() {
        TailRecorder x = with(0, 1);
        Due.due("booleans", x.room(0), 16);
        x.record(0, 16, 2, 0);
        Due.due("bytes", x.room(0), 32);
        x.record(0, 32, 128, 0);
        Due.due("shorts", x.room(0), 64);
        x.record(0, 48, 32768, 0);
        Due.due("chars", x.room(0), 96);
        x.record(0, 64, 65536, 0);
        Due.due("ints", x.room(0), 160);
        x.record(0, 80, 2147483648L, 0);
        Due.due("longs", x.room(0), 288);
        x.example(0, 90, true, 1);
        x.shelve(0);
        Due.due("four texts, ints, longs; no examples", x.room(0), 4 * 32 + 64 + 128);
        for (int v = 0; v < 16; v++) x.record(0, v, v == 0 ? 1 : 2, 0);
        x.shelve(0);
        Due.due("a level", x.room(0), 8 + 3 * 32 + 64 + 128);
        x = with(1, 1);
        Due.due("floats", x.room(0), 64);
        x.record(0, 16, 1048577, 0);
        Due.row("doubles", new long[] {x.room(0), x.room(1), x.room(-1), x.room(4)}, 192, -1, -1, -1);
        x.make(0, 0, 1, 1000);
        Due.due("empty", x.room(0), 0);
    }

    private static long[] peeked(TailRecorder x, int place) {
        long[] all = new long[9];
        for (int how = 0; how <= 8; how++) all[how] = x.peek(0, 0, 0, place, how);
        return all;
    }

    private static long f(float x) { return Float.floatToIntBits(x); }
    private static long d(double x) { return Double.doubleToLongBits(x); }

    private static void peeks() {
        Due.row("booleans", peeked(with(0, 0, 1), 1), 1, 1, -3, -3, -3, -3, -3, -3, -3);
        Due.row("booleans", peeked(with(0, 0, 1), 2), 0, 0, -3, -3, -3, -3, -3, -3, -3);
        Due.row("bytes", peeked(with(0, 0, 5), 1), 5, -3, 5, 5, -3, 5, 5, f(5), d(5));
        Due.row("bytes", peeked(with(0, 0, 5), 0), 0, -3, 0, 0, -3, 0, 0, 0, 0);
        Due.row("shorts", peeked(with(0, 300), 0), 300, -3, -3, 300, -3, 300, 300, f(300), d(300));
        Due.row("chars", peeked(with(0, 65535), 0), 65535, -3, -3, -3, 65535, 65535, 65535, f(65535), d(65535));
        Due.row("ints", peeked(with(0, 70000), 0), 70000, -3, -3, -3, -3, 70000, 70000, f(70000), d(70000));
        Due.row("longs", peeked(with(0, 5000000000L), 0), 5000000000L, -3, -3, -3, -3, -3, 5000000000L, f(5000000000L), d(5000000000L));
        Due.row("longs", peeked(with(0, 5000000000L), 1), 0, -3, -3, -3, -3, -3, 0, 0, 0);
        Due.row("floats", peeked(with(1, 3), 0), f(3 / 16f), -3, -3, -3, -3, -3, -3, f(3 / 16f), d(3 / 16d));
        Due.row("floats", peeked(with(1, 1048576), 0), f(65536), -3, -3, -3, -3, -3, -3, f(65536), d(65536));
        Due.row("floats", peeked(with(1, 1048575), 1), 0, -3, -3, -3, -3, -3, -3, 0, 0);
        Due.row("doubles", peeked(with(1, 1048577), 0), d(1048577 / 16d), -3, -3, -3, -3, -3, -3, -3, d(1048577 / 16d));
        TailRecorder x = with(0, 1, 2);
        x.shelve(0);
        Due.row("a text", peeked(x, 0), -3, -3, -3, -3, -3, -3, -3, -3, -3);
        Due.row("a text, place", peeked(x, 16), -2, -2, -2, -2, -2, -2, -2, -2, -2);
        x = with(0, 2, 2, 2, 2, 2, 2, 2, 2, 2, 2, 2, 2, 2, 2, 2, 2);
        x.shelve(0);
        Due.row("a level", peeked(x, 0), -3, -3, -3, -3, -3, -3, -3, -3, -3);
        Due.row("a level, place", peeked(x, -1), -2, -2, -2, -2, -2, -2, -2, -2, -2);
        Due.row("none, whatever place", new long[] {x.peek(0, 0, 1, 0, 0), x.peek(0, 0, 1, 99, 3), x.peek(0, 1, 0, -1, 0)}, -4, -4, -4);
        x = with(0, 0, 1);
        Due.row("places", new long[] {x.peek(0, 0, 0, 16, 5), x.peek(0, 0, 0, -1, 1), x.peek(0, 0, 0, Integer.MAX_VALUE, 0), x.peek(0, 0, 0, 15, 1)}, -2, -2, -2, 0);
    }

    /** As floats what a float has no room for: to the nearest, of two to the even one, with a carry. */
    private static void roundedPeeks() {
        long[] all = {
            16777215, 16777216, 16777217, 16777218, 16777219, 33554433, 33554434, 33554435, 33554438, 67108863, 2147483647L, 2147483648L,
            4294967295L, 999999999999L, 1000000000000L, (1L << 39) + (1L << 15), (1L << 39) + (1L << 15) + 1, (1L << 39) + 3 * (1L << 15)};
        for (long units : all) {
            TailRecorder x = with(0, units);
            Due.row("of " + units, new long[] {x.peek(0, 0, 0, 0, 7), x.peek(0, 0, 0, 0, 8)}, f((float) units), d((double) units));
            x = with(1, units);
            Due.row("weights of " + units, new long[] {x.peek(0, 0, 0, 0, 0), x.peek(0, 0, 0, 0, 8)}, d(units / 16d), d(units / 16d));
        }
        TailRecorder x = with(1, 1000000000000L);
        for (int k = 0; k < 9; k++) x.add(0, 0);
        Due.due("512 * 10^12", x.peek(0, 0, 0, 0, 8), d(32000000000000d));
    }

    private static long[] poked(long... units) {
        return poked(0, units);
    }

    /** What poke by each how 1 to 22 answers, each into a page made anew. */
    private static long[] poked(int sort, long[] units) {
        long[] all = new long[22];
        for (int how = 1; how <= 22; how++) all[how - 1] = with(sort, units).poke(0, 0, 0, 0, how, 1);
        return all;
    }

    private static void pokes() {
        Due.row("booleans", poked(1), 0, -3, -3, -3, -3, -3, -3, -3, -1, -1, 0, -3, -3, -3, -3, -3, -3, -3, -3, -3, -3, -1);
        Due.row("bytes", poked(2), -3, 0, -3, -3, -3, -3, -3, -3, -1, -1, -3, 0, -3, -3, -3, -3, -3, -3, -3, -3, -3, -1);
        Due.row("shorts", poked(128), -3, 0, 0, -3, -3, -3, -3, -3, -1, -1, -3, 0, 0, -3, -3, -3, -3, -3, -3, -3, -3, -1);
        Due.row("chars", poked(32768), -3, -3, -3, 0, -3, -3, -3, -3, -1, -1, -3, -3, -3, 0, -3, -3, -3, -3, -3, -3, -3, -1);
        Due.row("ints", poked(65536), -3, 0, 0, 0, 0, -3, -3, -3, -1, -1, -3, 0, 0, 0, 0, -3, -3, -3, -3, -3, -3, -1);
        Due.row("longs", poked(5000000000L), -3, 0, 0, 0, 0, 0, -3, -3, -1, -1, -3, 0, 0, 0, 0, 0, -3, -3, -3, -3, -3, -1);
        Due.row("floats", poked(1, new long[] {1}), -3, 0, 0, 0, 0, 0, 0, -3, -1, -1, -3, 0, 0, 0, 0, 0, 0, -3, -3, -3, -3, -1);
        Due.row("doubles", poked(1, new long[] {1048577}), -3, 0, 0, 0, 0, 0, 0, 0, -1, -1, -3, 0, 0, 0, 0, 0, 0, 0, -3, -3, -3, -1);
        TailRecorder x = with(0, 1, 0, 1);
        Due.row("booleans: whether it is above 0", new long[] {x.poke(0, 0, 0, 1, 1, 100), x.at(0, 1), x.poke(0, 0, 0, 2, 11, 0), x.at(0, 2), x.kind(0, 0), x.total(0)},
            0, 1, 0, 0, 1, 2);
        x = with(0, 127);
        Due.row("bytes", new long[] {x.poke(0, 0, 0, 0, 2, 100), x.at(0, 0), x.poke(0, 0, 0, 15, 12, 7), x.at(0, 15), x.total(0), x.kind(0, 0)}, 0, 100, 0, 7, 107, 2);
        x = with(1, 1048577);
        Due.row("wholes", new long[] {x.poke(0, 0, 0, 0, 3, 100), x.at(0, 0), x.kind(0, 0), x.peek(0, 0, 0, 0, 8), x.poke(0, 0, 0, 1, 18, 3), x.at(0, 1)},
            0, 1600, 8, d(100), 0, 48);
        Due.row("all zeros poked: no other kind", new long[] {x.poke(0, 0, 0, 0, 2, 0), x.poke(0, 0, 0, 1, 2, 0), x.kind(0, 0), x.total(0)}, 0, 0, 8, 0);
        int acts = x.count(4);
        Due.row("refused", new long[] {
            x.poke(0, 0, 1, 0, 8, 1), x.poke(0, 0, 1, 16, 8, 1), x.poke(0, 0, 0, 16, 8, 1), x.poke(0, 0, 0, -1, 1, 1), x.poke(0, 0, 0, 0, 1, 1), x.poke(0, 1, 0, 0, 20, 1),
            x.count(4), x.total(0)}, -4, -4, -2, -2, -3, -4, acts, 0);
        x = with(0, 3);
        x.shelve(0);
        Due.row("a text", new long[] {x.poke(0, 0, 0, 0, 4, 1), x.poke(0, 0, 0, 99, 4, 1), x.kind(0, 0), x.at(0, 0), x.count(4)}, -3, -2, 10, 3, 3);
        x = with(0, 3, 3, 3, 3, 3, 3, 3, 3, 3, 3, 3, 3, 3, 3, 3, 3);
        x.shelve(0);
        Due.row("a level", new long[] {x.poke(0, 0, 0, 0, 6, 1), x.poke(0, 0, 0, -2, 6, 1), x.poke(0, 0, 0, 0, 16, 1), x.kind(0, 0), x.at(0, 0)}, -3, -2, -3, 9, 3);
        x = with(0, 2);
        Due.row("the same number, an act too", new long[] {x.poke(0, 0, 0, 0, 2, 2), x.at(0, 0), x.count(4)}, 0, 2, 3);
    }

    /** Slot 506 is the last of 1000 by two digits: place 10 of page 31. */
    private static void behindTheLastSlot() {
        TailRecorder x = with(0);
        for (int v = 960; v <= 1000; v += 4) x.record(0, v, 1, 0);
        Due.row("page 31", new long[] {x.total(0), x.kind(0, 31), x.peek(0, 0, 31, 10, 1), x.peek(0, 0, 31, 11, 1), x.peek(0, 0, 31, 15, 0)}, 11, 1, 1, 0, 0);
        x.shelve(0);
        Due.due("its 16 places are not alike", x.kind(0, 31), 10);
        x.record(0, 1000, 99, 0);
        for (int k = 11; k < 16; k++) Due.due("poke", x.poke(0, 0, 31, k, 2, 100), 0);
        Due.row("for nothing", new long[] {x.total(0), x.below(0, 1000), x.setting(0, 4), x.rank(0, 100000), x.about(0, 1), x.about(0, 2), x.pack(0)},
            110, 10, 11, 1000, 1000, (100 * 1001 + 10 * 979) / 110, 5 + 2 + 10 + 2);
        Due.row("but for peeks", new long[] {x.peek(0, 0, 31, 11, 2), x.peek(0, 0, 31, 15, 0)}, 100, 100);
        Due.row("and when shelved", new long[] {x.halve(0), x.shelve(0), x.kind(0, 31)}, 50, 1, 10);
        x = with(0);
        for (int v = 960; v <= 1000; v += 4) x.record(0, v, 2, 0);
        for (int k = 11; k < 16; k++) x.poke(0, 0, 31, k, 2, 2);
        Due.row("a level by what was poked", new long[] {x.shelve(0), x.kind(0, 31), x.total(0), x.record(0, 1000, 1, 0), x.kind(0, 31), x.peek(0, 0, 31, 15, 2)},
            1, 9, 22, 3, 2, 2);
        x = with(0);
        x.record(0, 1000, 2, 0);
        x.poke(0, 0, 31, 15, 2, 100);
        x.takeOff(0, 0);
        Due.row("and in kinds", new long[] {x.total(0), x.shelve(0), x.kind(0, 31), x.room(0), x.record(0, 1000, 1, 0), x.kind(0, 31)}, 0, 1, 10, 32, 1, 2);
    }

    private static void withoutThese() {
        TailRecorder x = with(0, 7);
        Due.row("kind", new long[] {x.kind(0, -1), x.kind(0, -2), x.kind(0, 32), x.kind(0, 31), x.kind(1, -1), x.kind(-1, 0), x.kind(4, 0), x.kind(0, Integer.MAX_VALUE)},
            32, -1, -1, 0, -1, -1, -1, -1);
        Due.row("shelve", new long[] {x.shelve(1), x.shelve(-1), x.shelve(4), x.count(4)}, -1, -1, -1, 2);
        Due.row("peek", new long[] {
            x.peek(1, 0, 0, 0, 0), x.peek(-1, 0, 0, 0, 0), x.peek(4, 0, 0, 0, 0), x.peek(0, -1, 0, 0, 0), x.peek(0, 2, 0, 0, 0), x.peek(0, 0, -1, 0, 0),
            x.peek(0, 0, 32, 0, 0), x.peek(0, 0, 0, 0, -1), x.peek(0, 0, 0, 0, 9), x.peek(0, 0, 0, 99, 9), x.peek(0, 1, 32, 0, 0)},
            NO_PEEK, NO_PEEK, NO_PEEK, NO_PEEK, NO_PEEK, NO_PEEK, NO_PEEK, NO_PEEK, NO_PEEK, NO_PEEK, NO_PEEK);
        Due.row("poke", new long[] {
            x.poke(1, 0, 0, 0, 2, 1), x.poke(-1, 0, 0, 0, 2, 1), x.poke(4, 0, 0, 0, 2, 1), x.poke(0, -1, 0, 0, 2, 1), x.poke(0, 2, 0, 0, 2, 1), x.poke(0, 0, -1, 0, 2, 1),
            x.poke(0, 0, 32, 0, 2, 1), x.poke(0, 0, 0, 0, 0, 1), x.poke(0, 0, 0, 0, 9, 1), x.poke(0, 0, 0, 0, 10, 1), x.poke(0, 0, 0, 0, 22, 1), x.poke(0, 0, 0, 0, 2, -1),
            x.poke(0, 0, 0, 0, 2, 101), x.poke(0, 1, 0, 0, 19, 101), x.poke(0, 0, 0, 99, 2, 101), x.poke(0, 0, 0, 0, -2, 1), x.count(4), x.at(0, 0)},
            -1, -1, -1, -1, -1, -1, -1, -1, -1, -1, -1, -1, -1, -1, -1, -1, 2, 7);
    }
}
