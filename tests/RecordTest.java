/** Promises 8 record, 9 at, 10 below, 11 total, 12 rank, 13 about, 32 same. */
public final class RecordTest {
    private static final long TOP = 1000000000000L;
    private static final long MOST = 1000000000000000L;

    public static void main(String[] args) {
        recording();
        awaited();
        awaitedTooMany();
        tooManyUnits();
        atBelowTotal();
        ranks();
        abouts();
        wideSums();
        sames();
        Due.finish();
    }

    private static void recording() {
        TailRecorder x = new TailRecorder();
        x.make(0, 0, 1, 1000);
        Due.row("records", new long[] {x.record(0, 0, 1, 0), x.record(0, 0, 2, 0), x.record(0, 32, 5, 0), x.record(0, 33, 6, 0), x.record(0, 1000, TOP, 0)},
            1, 3, 5, 11, TOP);
        int acts = x.count(4);
        Due.row("it can't be", new long[] {x.record(0, 1001, 1, 0), x.record(0, -1, 1, 0), x.record(0, Long.MAX_VALUE, 1, 1), x.record(0, Long.MIN_VALUE, 1, 0)},
            -2, -2, -2, -2);
        Due.row("other n, intervals", new long[] {
            x.record(0, 5, 0, 0), x.record(0, 5, -1, 0), x.record(0, 5, TOP + 1, 0), x.record(0, 5, Long.MIN_VALUE, 0), x.record(0, 5, 1, -1),
            x.record(0, 5, 1, Long.MIN_VALUE), x.record(1, 5, 1, 0), x.record(-1, 5, 1, 0), x.record(4, 5, 1, 0), x.record(0, 1001, 0, 0), x.record(0, -1, 1, -1)},
            -1, -1, -1, -1, -1, -1, -1, -1, -1, -1, -1);
        Due.row("nothing happens", new long[] {x.total(0), x.count(4)}, TOP + 14, acts);
        x.make(1, 1, 1, 1023);
        Due.row("units of weights", new long[] {x.record(1, 7, 3, 0), x.at(1, 7), x.total(1)}, 3, 3, 3);
    }

    private static void awaited() {
        TailRecorder x = new TailRecorder();
        x.make(0, 0, 2, 100000);
        Due.due("record 100, awaited every 30", x.record(0, 100, 2, 30), 2);
        Due.row("100, 70, 40, not 10", new long[] {x.at(0, 100), x.at(0, 70), x.at(0, 40), x.at(0, 10), x.total(0)}, 2, 2, 2, 0, 6);
        x.record(0, 90, 1, 30);
        Due.row("90, 60, 30, not 0", new long[] {x.at(0, 90), x.at(0, 60), x.at(0, 30), x.at(0, 0), x.total(0)}, 1, 1, 1, 0, 9);
        x.takeOff(0, 0);
        Due.row("below the interval, at it, one under twice", new long[] {
            x.record(0, 29, 1, 30), x.total(0), x.record(0, 30, 1, 30), x.total(0), x.record(0, 59, 1, 30), x.total(0), x.record(0, 60, 1, 30), x.total(0), x.at(0, 30)},
            1, 1, 1, 2, 1, 3, 1, 5, 2);
        Due.row("far below it", new long[] {x.record(0, 0, 4, Long.MAX_VALUE), x.record(0, 5, 4, Long.MAX_VALUE), x.total(0)}, 4, 4, 13);
        x.make(1, 0, 1, 1000);
        // 992 to 1000 are of the slot of 1000
        Due.row("several to one slot", new long[] {x.record(1, 1000, 3, 1), x.at(1, 991), x.at(1, 32), x.at(1, 31), x.at(1, 1), x.at(1, 0), x.total(1)},
            27, 96, 6, 3, 3, 0, 3000);
        x.make(1, 0, 1, 1000);
        Due.row("another step", new long[] {x.record(1, 1000, 1, 7), x.total(1), x.at(1, 6), x.at(1, 7), x.at(1, 13), x.at(1, 20)}, 2, 142, 0, 0, 1, 1);
    }

    private static void awaitedTooMany() {
        TailRecorder x = new TailRecorder();
        x.make(0, 0, 1, TOP);
        Due.row("1000 besides are as many as may be", new long[] {x.record(0, 1001, 1, 1), x.total(0), x.record(0, 1002, 1, 1), x.total(0)}, 10, 1001, -2, 1001);
        Due.row("of a wider interval", new long[] {x.record(0, 10019, 1, 10), x.total(0), x.record(0, 10020, 1, 10), x.total(0)},
            x.at(0, 10019), 2002, -2, 2002);
        Due.row("of the highest value", new long[] {x.record(0, TOP, 1, 1), x.record(0, TOP, 1, TOP / 1002), x.record(0, TOP, 1, TOP / 1001), x.total(0), x.count(4)},
            -2, -2, x.at(0, TOP), 3003, 4);
    }

    private static void tooManyUnits() {
        TailRecorder x = new TailRecorder();
        x.make(0, 1, 1, 2000);
        x.record(0, 40, TOP, 0);
        for (int bit = 8; bit >= 0; bit--) {
            x.add(0, 0);
            if ((1000 >> bit & 1) == 1) x.record(0, 41, TOP, 0);
        }
        int acts = x.count(4);
        Due.row("a full slot", new long[] {x.at(0, 40), x.record(0, 41, 1, 0), x.at(0, 40), x.count(4)}, MOST, -2, MOST, acts);
        Due.row("a full slot, awaited: nothing happens", new long[] {x.record(0, 82, 1, 41), x.at(0, 82), x.total(0)}, -2, 0, MOST);
        Due.row("the full slot is not awaited", new long[] {x.record(0, 80, 1, 41), x.record(0, 84, 1, 42), x.at(0, 42)}, 1, 1, 1);
        x.make(1, 1, 1, 2000);
        x.record(1, 40, 3, 0);
        x.takeOff(0, 1);
        Due.row("two units of room", new long[] {x.record(0, 40, 4, 0), x.record(0, 120, 2, 40), x.record(0, 40, 1, 0), x.record(0, 40, 2, 0), x.at(0, 40)},
            -2, 2, MOST, -2, MOST);
        x.record(0, 300, 1, 0);
        x.halve(0);
        Due.row("room for more", new long[] {x.record(0, 40, 7, 0), x.at(0, 300)}, MOST / 2 + 7, 0);
    }

    private static void atBelowTotal() {
        TailRecorder x = new TailRecorder();
        x.make(0, 0, 1, 1000);
        x.record(0, 0, 1, 0);
        x.record(0, 31, 10, 0);
        x.record(0, 33, 100, 0);
        x.record(0, 1000, 1000, 0);
        Due.row("at", new long[] {x.at(0, 0), x.at(0, 1), x.at(0, 31), x.at(0, 32), x.at(0, 34), x.at(0, 992), x.at(0, 991)}, 1, 0, 10, 100, 0, 1000, 0);
        Due.row("below", new long[] {x.below(0, 0), x.below(0, 1), x.below(0, 31), x.below(0, 32), x.below(0, 33), x.below(0, 34), x.below(0, 1000)},
            0, 1, 1, 11, 11, 111, 111);
        Due.due("total", x.total(0), 1111);
        Due.row("without these", new long[] {
            x.at(0, -1), x.at(0, 1001), x.at(0, Long.MAX_VALUE), x.at(1, 0), x.at(-1, 0), x.at(4, 0), x.below(0, -1), x.below(0, 1001), x.below(1, 0),
            x.below(4, 0), x.total(1), x.total(-1), x.total(4)},
            -1, -1, -1, -1, -1, -1, -1, -1, -1, -1, -1, -1, -1);
        Due.due("none of these is an act", x.count(4), 5);
    }

    private static void ranks() {
        TailRecorder x = new TailRecorder();
        x.make(0, 0, 1, 1000);
        Due.row("of an empty one", new long[] {x.rank(0, 0), x.rank(0, 100000), x.rank(0, -1), x.rank(0, 100001)}, -2, -2, -1, -1);
        x.record(0, 7, 1, 0);
        x.record(0, 40, 1, 0);
        x.record(0, 1000, 1, 0);
        Due.row("of three", new long[] {x.rank(0, 0), x.rank(0, 33333), x.rank(0, 33334), x.rank(0, 66666), x.rank(0, 66667), x.rank(0, 100000)},
            7, 7, 41, 41, 1000, 1000);
        x.record(0, 40, 2, 0);
        Due.row("of five, just wanted", new long[] {x.rank(0, 20000), x.rank(0, 20001), x.rank(0, 80000), x.rank(0, 80001)}, 7, 41, 41, 1000);
        Due.row("without these", new long[] {x.rank(0, -1), x.rank(0, 100001), x.rank(1, 0), x.rank(-1, 0), x.rank(4, 0), x.rank(0, Integer.MIN_VALUE)}, -1, -1, -1, -1, -1, -1);
        x.make(1, 0, 2, TOP);
        for (int k = 1; k < 100; k++) { x.record(1, 3, TOP, 0); x.record(1, 500, TOP, 0); }
        x.record(1, TOP, 2 * 99, 0);
        // total 198 * (10^12 + 1): of rank 50000 wanted are 99 * 10^12 + 99, of rank 49999 less
        Due.row("of many", new long[] {x.rank(1, 49999), x.rank(1, 50000), x.rank(1, 99999), x.rank(1, 100000)}, 3, 501, 501, TOP);
    }

    private static void abouts() {
        TailRecorder x = new TailRecorder();
        x.make(0, 0, 1, 1000);
        Due.row("of an empty one", new long[] {x.about(0, 0), x.about(0, 1), x.about(0, 2), x.about(0, 3), x.about(0, -1)}, -2, -2, -2, -1, -1);
        x.record(0, 1000, 1, 0);
        Due.row("highest at most, but for the mean", new long[] {x.about(0, 0), x.about(0, 1), x.about(0, 2)}, 992, 1000, 1007);
        x.record(0, 66, 2, 0);
        // slot 64 to 67, middle 65: (1007 + 2 * 65) / 3 = 379
        Due.row("of two slots", new long[] {x.about(0, 0), x.about(0, 1), x.about(0, 2)}, 64, 1000, 379);
        x.record(0, 0, 1, 0);
        Due.row("and of 0", new long[] {x.about(0, 0), x.about(0, 1), x.about(0, 2)}, 0, 1000, 284);
        Due.row("without these", new long[] {x.about(0, -1), x.about(0, 3), x.about(1, 0), x.about(4, 2), x.about(-1, 1)}, -1, -1, -1, -1, -1);
        x.make(1, 0, 1, 1000);
        x.record(1, 0, 5, 0);
        Due.row("of 0 alone", new long[] {x.about(1, 0), x.about(1, 1), x.about(1, 2)}, 0, 0, 0);
        x.make(2, 1, 1, 1000);
        x.record(2, 5, 3, 0);
        x.record(2, 9, 1, 0);
        Due.row("of weights", new long[] {x.about(2, 0), x.about(2, 1), x.about(2, 2)}, 5, 9, 6);
    }

    private static void wideSums() {
        TailRecorder x = new TailRecorder();
        x.make(0, 0, 2, TOP);
        x.record(0, TOP, TOP, 0);
        for (int k = 0; k < 9; k++) x.add(0, 0);
        long middle = x.edge(2, TOP, 2);
        Due.row("of one slot", new long[] {x.about(0, 2), x.total(0)}, middle, 512 * TOP);
        x.record(0, 0, 1, 0);
        Due.due("a little less", x.about(0, 2), middle - 1);
        x.make(1, 0, 2, TOP);
        x.record(1, TOP, TOP, TOP / 1001);
        for (int k = 0; k < 7; k++) x.add(1, 1);
        java.math.BigInteger sum = java.math.BigInteger.ZERO;
        for (long v = TOP; v >= TOP / 1001; v -= TOP / 1001) sum = sum.add(java.math.BigInteger.valueOf(Model.middle(2, Model.slotOf(2, v))));
        Due.row("of many slots", new long[] {x.about(1, 2), x.total(1)}, sum.divide(java.math.BigInteger.valueOf(1001)).longValue(), 1001 * 128 * TOP);
        Due.row("rank", new long[] {x.rank(1, 100000), x.rank(1, 99901), x.rank(1, 99800)}, TOP, TOP, Math.min(TOP, x.edge(2, TOP - 2 * (TOP / 1001), 1)));
    }

    private static void sames() {
        TailRecorder x = new TailRecorder();
        x.make(0, 0, 1, 1000);
        x.make(1, 0, 1, 1000);
        Due.row("empty ones", new long[] {x.same(0, 1), x.same(0, 0), x.same(0, 2), x.same(2, 0), x.same(-1, 0), x.same(0, 4)}, 1, 1, -1, -1, -1, -1);
        x.record(0, 900, 300, 0);
        Due.row("other units", new long[] {x.same(0, 1), x.same(1, 0), x.same(0, 0)}, 0, 0, 1);
        x.record(1, 900, 299, 0);
        Due.due("one less", x.same(0, 1), 0);
        x.record(1, 901, 1, 0);
        x.shelve(1);
        x.example(1, 4, true, 4);
        Due.row("kinds and examples are not asked", new long[] {x.kind(0, 6), x.kind(1, 6), x.same(0, 1)}, 3, 10, 1);
        x.make(2, 0, 1, 1001);
        x.make(3, 0, 1, 1000);
        x.takeOff(1, 1);
        Due.row("other highest, zeros in rows", new long[] {x.same(2, 3), x.same(3, 1), x.same(1, 3)}, 0, 1, 1);
        x.make(2, 1, 1, 1000);
        Due.due("other sort", x.same(2, 3), 0);
        x.make(2, 0, 2, 1000);
        Due.due("other digits", x.same(2, 3), 0);
        x.make(0, 0, 2, 1000);
        x.record(0, 1000, 2, 0);
        x.poke(0, 0, 31, 11, 2, 7);
        x.record(2, 1000, 2, 0);
        Due.due("places behind the last slot are not asked", x.same(0, 2), 1);
    }
}
