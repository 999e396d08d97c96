import java.util.function.Supplier;
import java.util.function.ToLongFunction;

/**
 * Each sentence that says "nothing happens" (or that a call is refused, or only tells): what later calls answer is
 * what they answer where it was not called. The other side of each boundary is in the Edge..Tests.
 */
public final class NothingHappensTest {
    private static final long TOP = 1000000000000L;
    private static final long MOST = 1000000000000000L;
    private static final long MIN = Long.MIN_VALUE;

    public static void main(String[] args) {
        promise2();
        promise3();
        promise5();
        promise8();
        promise8TooMuch();
        promises14And15();
        promises14And15TooMuch();
        promises16And17();
        promise20();
        promise21();
        promise22();
        promise24();
        promise25();
        promise26();
        promise27();
        promise28();
        promise29();
        promise31();
        telling();
        Due.finish();
    }

    /**
     * Recorder 0 (it rests, and writer 1 writes to it): a text, ints, examples and names; 1 (active, writer 2): some
     * awaited values; 2 of weights: a level, floats; 3 was never made. Eight acts, a tape of 7 bytes.
     */
    private static TailRecorder rich() {
        TailRecorder x = new TailRecorder();
        x.make(0, 0, 1, 1000);
        x.make(1, 0, 1, 1000);
        x.make(2, 1, 1, 1000);
        x.record(2, 15, 16, 1);
        x.record(2, 0, 16, 0);
        x.record(2, 40, 5, 0);
        x.shelve(2);
        x.record(0, 3, 2, 0);
        x.record(0, 31, 70000, 0);
        x.shelve(0);
        x.begin(1);
        x.example(0, 3, false, 42);
        x.example(0, 20, true, 7);
        x.swap();
        x.begin(2);
        x.write(2, 500, 9, 100);
        x.record(0, 4, 300, 2);
        x.poke(0, 1, 0, 4, 20, 5);
        x.feed(0x01020304, 0x05060708, 0, 0, 0);
        x.end(7);
        return x;
    }

    private static void refused(String call, ToLongFunction<TailRecorder> of, long due) {
        Still.refused(call, NothingHappensTest::rich, of, due);
    }

    private static void promise2() {
        Due.sentence("2: NONE, and none comes");
        Supplier<TailRecorder> full = () -> {
            TailRecorder x = rich();
            for (int k = 0; k < 19; k++) x.feed(k, k, k, k, k);
            x.end(381);
            return x;
        };
        Still.refused("feed", full, x -> x.feed(-1, -1, -1, -1, -1), -1);
    }

    private static void promise3() {
        Due.sentence("3: NONE, and nothing happens");
        refused("end(8)", x -> x.end(8), -1);
        refused("end(-1)", x -> x.end(-1), -1);
    }

    private static void promise5() {
        Due.sentence("5: NONE, and nothing happens, without these");
        refused("recorder -1", x -> x.make(-1, 0, 1, 1000), -1);
        refused("recorder 4", x -> x.make(4, 0, 1, 1000), -1);
        refused("sort -1", x -> x.make(0, -1, 1, 1000), -1);
        refused("sort 2", x -> x.make(0, 2, 1, 1000), -1);
        refused("digits 0", x -> x.make(0, 0, 0, 1000), -1);
        refused("digits 3", x -> x.make(3, 0, 3, 1000), -1);
        refused("highest 999", x -> x.make(0, 0, 1, 999), -1);
        refused("highest 10^12 + 1", x -> x.make(3, 0, 1, TOP + 1), -1);
    }

    private static void promise8() {
        Due.sentence("8: -2, and nothing happens: it can't be");
        refused("v -1", x -> x.record(0, -1, 1, 0), -2);
        refused("v above HIGHEST", x -> x.record(0, 1001, 1, 0), -2);
        refused("v above HIGHEST, awaited", x -> x.record(0, 1001, 1, 7), -2);
        Due.sentence("8: NONE, and nothing happens");
        refused("recorder 3", x -> x.record(3, 5, 1, 0), -1);
        refused("recorder -1", x -> x.record(-1, 5, 1, 0), -1);
        refused("recorder 4", x -> x.record(4, 5, 1, 0), -1);
        refused("n 0", x -> x.record(0, 5, 0, 0), -1);
        refused("n 10^12 + 1", x -> x.record(0, 5, TOP + 1, 0), -1);
        refused("interval -1", x -> x.record(0, 5, 1, -1), -1);
    }

    /** As rich(), but slot 3 of recorder 1 has two units less than it may, and its highest value is 2000. */
    private static TailRecorder nearlyFull() {
        TailRecorder x = rich();
        Due.fill(x, Due.packed(0, 1, 2000, 0, 0, 0, MOST - 2, 0, 0, 5));
        x.unpack(1);
        x.example(1, 3, true, 1);
        return x;
    }

    private static void promise8TooMuch() {
        Due.sentence("8: -2, and nothing happens: would a SLOT have more than it may");
        Still.refused("its slot", NothingHappensTest::nearlyFull, x -> x.record(1, 3, 3, 0), -2);
        Still.refused("the last awaited slot", NothingHappensTest::nearlyFull, x -> x.record(1, 9, 3, 3), -2);
        Still.refused("one between", NothingHappensTest::nearlyFull, x -> x.record(1, 9, 3, 2), -2);
        Still.refused("several to one slot", NothingHappensTest::nearlyFull, x -> x.record(1, 1001, TOP, 1), -2);
        Still.refused("1001 awaited values", NothingHappensTest::nearlyFull, x -> x.record(1, 1002, 1, 1), -2);
        Due.sentence("27: -2, and nothing happens: would a SLOT have more than it may");
        Still.refused("its slot", NothingHappensTest::nearlyFull, x -> x.write(2, 3, 3, 0), -2);
        Still.refused("the last awaited slot", NothingHappensTest::nearlyFull, x -> x.write(2, 9, 3, 3), -2);
        Still.refused("1001 awaited values", NothingHappensTest::nearlyFull, x -> x.write(2, 1002, 1, 1), -2);
    }

    private static void promises14And15() {
        Due.sentence("14: -2, and nothing happens: they must be of one SORT");
        refused("counts to weights", x -> x.add(2, 0), -2);
        refused("weights to counts", x -> x.add(0, 2), -2);
        Due.sentence("15: -2, and nothing happens: they must be of one SORT");
        refused("counts off weights", x -> x.takeOff(2, 0), -2);
        refused("weights off counts", x -> x.takeOff(0, 2), -2);
        Due.sentence("15: -2, and nothing happens: one that has not so much");
        refused("the second slot", x -> x.takeOff(0, 1), -2);
        Due.sentence("14, 15: NONE, and nothing happens, without these");
        int[] none = {-1, 3, 4};
        for (int r : none) {
            refused("add(0, " + r + ")", x -> x.add(0, r), -1);
            refused("add(" + r + ", 0)", x -> x.add(r, 0), -1);
            refused("takeOff(0, " + r + ")", x -> x.takeOff(0, r), -1);
            refused("takeOff(" + r + ", 0)", x -> x.takeOff(r, 0), -1);
        }
    }

    private static void promises14And15TooMuch() {
        Supplier<TailRecorder> way = () -> {
            TailRecorder x = nearlyFull();
            Due.fill(x, Due.packed(0, 2, 3000, 1, 0, 0, 3, 0, 0, 2));
            x.unpack(3);
            x.shelve(3);
            return x;
        };
        Due.sentence("14: -2, and nothing happens: a SLOT would have more than it may");
        Still.refused("add(1, 3)", way, x -> x.add(1, 3), -2);
        Still.refused("add(1, 1)", way, x -> x.add(1, 1), -2);
        Due.sentence("15: -2, and nothing happens: one that has not so much");
        Still.refused("takeOff(1, 3)", way, x -> x.takeOff(1, 3), -2);
        Still.refused("takeOff(3, 1)", way, x -> x.takeOff(3, 1), -2);
        Supplier<TailRecorder> wide = () -> {
            TailRecorder x = nearlyFull();
            x.make(3, 0, 2, 3000);
            x.record(3, 3, 1, 0);
            x.record(3, 2008, 1, 0);
            return x;
        };
        Due.sentence("14, 15: -2, and nothing happens: b's last SLOT that is not 0 of a LOW that a has not");
        Still.refused("add(1, 3)", wide, x -> x.add(1, 3), -2);
        Still.refused("takeOff(1, 3)", wide, x -> x.takeOff(1, 3), -2);
    }

    private static void promises16And17() {
        Due.sentence("16, 17: NONE, and nothing happens, without that RECORDER");
        int[] none = {-1, 3, 4};
        for (int r : none) {
            refused("halve(" + r + ")", x -> x.halve(r), -1);
            refused("shelve(" + r + ")", x -> x.shelve(r), -1);
        }
    }

    private static void promise20() {
        Due.sentence("20: PEEK (what is refused, too)");
        refused("at a row", x -> x.peek(0, 0, 0, 4, 0), 300);
        refused("at a page that is none", x -> x.peek(0, 0, 6, 0, 0), -4);
        refused("at no place", x -> x.peek(0, 0, 0, 16, 0), -2);
        refused("by a how that is not right", x -> x.peek(0, 0, 0, 0, 1), -3);
        refused("at a row of examples", x -> x.peek(0, 1, 0, 3, 0), 42);
        refused("by a how that is none", x -> x.peek(0, 0, 0, 0, 9), MIN);
    }

    private static void promise21() {
        Due.sentence("21: -2, -3, -4: refused, and nothing happens");
        refused("no place", x -> x.poke(0, 0, 0, 16, 2, 9), -2);
        refused("place -1", x -> x.poke(0, 0, 0, -1, 2, 9), -2);
        refused("no place of examples", x -> x.poke(0, 1, 0, 16, 20, 9), -2);
        refused("a boolean into shorts", x -> x.poke(0, 0, 0, 4, 1, 9), -3);
        refused("an int into shorts", x -> x.poke(0, 0, 0, 4, 5, 9), -3);
        refused("null into shorts", x -> x.poke(0, 0, 0, 4, 19, 9), -3);
        refused("an example into shorts", x -> x.poke(0, 0, 0, 4, 20, 9), -3);
        refused("a short into a level", x -> x.poke(2, 0, 0, 4, 3, 9), -3);
        refused("a name into examples", x -> x.poke(0, 1, 0, 4, 21, 9), -3);
        refused("an example into names", x -> x.poke(0, 1, 1, 4, 20, 9), -3);
        refused("an int into examples", x -> x.poke(0, 1, 0, 4, 15, 9), -3);
        refused("into a page that is none", x -> x.poke(0, 0, 6, 4, 2, 9), -4);
        refused("into a row that is none", x -> x.poke(0, 1, 6, 4, 20, 9), -4);
        Due.sentence("21: NONE, and nothing happens, without these");
        refused("recorder 3", x -> x.poke(3, 0, 0, 4, 3, 9), -1);
        refused("recorder 4", x -> x.poke(4, 0, 0, 4, 3, 9), -1);
        refused("what 2", x -> x.poke(0, 2, 0, 4, 3, 9), -1);
        refused("what -1", x -> x.poke(0, -1, 0, 4, 20, 9), -1);
        refused("page 7", x -> x.poke(0, 0, 7, 4, 3, 9), -1);
        refused("page -1", x -> x.poke(0, 0, -1, 4, 3, 9), -1);
        refused("how 0", x -> x.poke(0, 0, 0, 4, 0, 9), -1);
        refused("how 9", x -> x.poke(0, 0, 0, 4, 9, 9), -1);
        refused("how 10", x -> x.poke(0, 0, 0, 4, 10, 9), -1);
        refused("how 22", x -> x.poke(0, 1, 0, 4, 22, 9), -1);
        refused("w -1", x -> x.poke(0, 0, 0, 4, 3, -1), -1);
        refused("w 101", x -> x.poke(0, 0, 0, 4, 3, 101), -1);
        refused("w 101, null", x -> x.poke(0, 1, 0, 4, 19, 101), -1);
    }

    private static void promise22() {
        Due.sentence("22: -3, and nothing happens: the row is of the other ones");
        refused("a name", x -> x.example(0, 3, true, 9), -3);
        refused("a name at a place that has none", x -> x.example(0, 9, true, 9), -3);
        refused("an example", x -> x.example(0, 20, false, 9), -3);
        Due.sentence("22: NONE, and nothing happens, without these");
        refused("recorder 3", x -> x.example(3, 3, false, 9), -1);
        refused("recorder -1", x -> x.example(-1, 3, false, 9), -1);
        refused("v -1", x -> x.example(0, -1, false, 9), -1);
        refused("v 1001", x -> x.example(0, 1001, false, 9), -1);
        refused("w -1", x -> x.example(0, 500, false, -1), -1);
        refused("w 101", x -> x.example(0, 500, true, 101), -1);
    }

    private static void promise24() {
        Due.sentence("24: -2, and nothing happens: more than 400");
        Supplier<TailRecorder> way = () -> {
            TailRecorder x = rich();
            x.make(3, 0, 2, 1000);
            x.record(3, 0, 1, 0);
            x.record(3, 556, 1, 1);
            return x;
        };
        Still.refused("pack(3)", way, x -> x.pack(3), -2);
        Due.sentence("24: NONE, and nothing happens, without that RECORDER");
        refused("pack(3)", x -> x.pack(3), -1);
        refused("pack(4)", x -> x.pack(4), -1);
    }

    private static void promise25() {
        Due.sentence("25: -2 - its FAULT, and but for the TAPE nothing happens");
        int[][] wrong = {
            {}, {164}, {165, 2}, {165, 0, 3}, {165, 0, 1, 231, 7}, {165, 0, 1, 232, 7, 2, 0}, {165, 0, 1, 232, 7, 2, 1}, {165, 0, 1, 232, 7, 1, 1, 2}, {165, 1, 2, 232, 7, 2, 4, 130}};
        int[] faults = {1, 1, 9, 17, 26, 51, 52, 51, 65};
        for (int k = 0; k < wrong.length; k++) {
            int[] bytes = wrong[k];
            for (int recorder = 0; recorder < 4; recorder += 3) {
                int r = recorder;
                Still.refused("unpack(" + r + ") of bytes " + k, () -> { TailRecorder x = rich(); x.end(0); return x; }, x -> { Due.fill(x, bytes); return x.unpack(r); }, -2 - faults[k]);
            }
        }
        Due.sentence("25: NONE, and nothing happens, without that number");
        refused("unpack(-1)", x -> x.unpack(-1), -1);
        refused("unpack(4)", x -> x.unpack(4), -1);
    }

    private static void promise26() {
        Due.sentence("26: NONE, and nothing happens");
        refused("writer -1", x -> x.begin(-1), -1);
        refused("writer 4", x -> x.begin(4), -1);
        refused("it writes already, to what rests", x -> x.begin(1), -1);
        refused("it writes already, to the active one", x -> x.begin(2), -1);
        Supplier<TailRecorder> way = () -> {
            TailRecorder x = new TailRecorder();
            x.make(1, 0, 1, 1000);
            x.record(1, 5, 1, 0);
            return x;
        };
        Still.refused("the active one was never made", way, x -> x.begin(0), -1);
    }

    private static void promise27() {
        Due.sentence("27: -2, and nothing happens: it can't be");
        refused("v 1001, to what rests", x -> x.write(1, 1001, 1, 0), -2);
        refused("v -1, to the active one", x -> x.write(2, -1, 1, 0), -2);
        Due.sentence("27: NONE, and nothing happens, if it does not write, or as for record()");
        refused("writer 0 does not write", x -> x.write(0, 5, 1, 0), -1);
        refused("writer -1", x -> x.write(-1, 5, 1, 0), -1);
        refused("writer 4", x -> x.write(4, 5, 1, 0), -1);
        refused("n 0", x -> x.write(1, 5, 0, 0), -1);
        refused("n 10^12 + 1", x -> x.write(2, 5, TOP + 1, 0), -1);
        refused("interval -1", x -> x.write(1, 5, 1, -1), -1);
    }

    private static void promise28() {
        Due.sentence("28: NONE, and nothing happens, if it does not write");
        refused("writer 0", x -> x.stop(0), -1);
        refused("writer 3", x -> x.stop(3), -1);
        refused("writer -1", x -> x.stop(-1), -1);
        refused("writer 4", x -> x.stop(4), -1);
    }

    private static void promise29() {
        Due.sentence("29: -2, and nothing happens: it can't be");
        refused("writer 1 writes to the one that is not active", x -> x.swap(), -2);
        Due.sentence("29: NONE, and nothing happens, unless both were MADE");
        for (int made = 0; made < 2; made++) {
            int r = made;
            Supplier<TailRecorder> way = () -> {
                TailRecorder x = new TailRecorder();
                x.make(r, 0, 1, 1000);
                x.record(r, 5, 1, 0);
                x.example(r, 5, true, 3);
                return x;
            };
            Still.refused("only " + r + " was made", way, x -> x.swap(), -1);
        }
    }

    private static void promise31() {
        Due.sentence("31: NONE, and nothing happens, if none can");
        Supplier<TailRecorder> way = () -> {
            TailRecorder x = rich();
            for (int k = 0; k < 8; k++) x.undo();
            return x;
        };
        Still.refused("undo", way, x -> x.undo(), -1);
        Still.refused("undo of a new object", TailRecorder::new, x -> x.undo(), -1);
    }

    private static void telling() {
        Due.sentence("promises that only tell: nothing of what later calls answer is another");
        refused("octet", x -> x.octet(2), 3);
        refused("slot", x -> x.slot(1, 32), 32);
        refused("edge", x -> x.edge(1, 33, 0), 32);
        refused("at", x -> x.at(0, 31), 70000);
        refused("below", x -> x.below(0, 4), 302);
        refused("total", x -> x.total(0), 70602);
        refused("rank", x -> x.rank(0, 100000), 31);
        refused("about", x -> x.about(0, 0), 2);
        refused("kind", x -> x.kind(0, 1), 5);
        refused("room", x -> x.room(0), 96);
        refused("examples", x -> x.examples(0), 3);
        refused("read", x -> x.read(), -2);
        refused("same", x -> x.same(0, 1), 0);
        refused("count", x -> x.count(2), 6);
        refused("setting", x -> x.setting(0, 4), 4);
    }
}
