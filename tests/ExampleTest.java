/** Promises 22 example, 23 examples; 20 peek and 21 poke of the rows of examples and names. */
public final class ExampleTest {
    public static void main(String[] args) {
        put();
        peeked();
        poked();
        kept();
        Due.finish();
    }

    private static void put() {
        TailRecorder x = new TailRecorder();
        x.make(0, 0, 1, 1000);
        Due.row("examples", new long[] {
            x.example(0, 0, false, 0), x.example(0, 15, false, 100), x.example(0, 16, true, 5), x.example(0, 1000, true, 7), x.examples(0), x.kind(0, 0), x.total(0), x.count(4)},
            0, 0, 0, 0, 4, 0, 0, 5);
        Due.row("the row is of the other ones", new long[] {x.example(0, 1, true, 5), x.example(0, 0, true, 5), x.example(0, 17, false, 5), x.examples(0), x.count(4)},
            -3, -3, -3, 4, 5);
        Due.row("one slot has one", new long[] {x.example(0, 992, true, 8), x.examples(0), x.peek(0, 1, 6, 15, 0), x.example(0, 991, true, 9), x.examples(0)}, 0, 4, 8, 0, 5);
        Due.row("without these", new long[] {
            x.example(0, -1, false, 1), x.example(0, 1001, false, 1), x.example(0, 5, false, -1), x.example(0, 5, false, 101), x.example(1, 5, false, 1),
            x.example(-1, 5, false, 1), x.example(4, 5, false, 1), x.example(0, Long.MIN_VALUE, true, 1), x.example(0, 1, true, 101), x.examples(1), x.examples(-1),
            x.examples(4), x.examples(0), x.count(4)},
            -1, -1, -1, -1, -1, -1, -1, -1, -1, -1, -1, -1, 5, 7);
    }

    private static long[] peeks(TailRecorder x, int page, int place) {
        long[] all = new long[9];
        for (int how = 0; how <= 8; how++) all[how] = x.peek(0, 1, page, place, how);
        return all;
    }

    private static void peeked() {
        TailRecorder x = new TailRecorder();
        x.make(0, 1, 1, 1000);
        x.record(0, 20, 5, 0);
        x.example(0, 3, false, 42);
        x.example(0, 20, true, 0);
        Due.row("examples", peeks(x, 0, 3), 42, -3, -3, -3, -3, -3, -3, -3, -3);
        Due.row("none there", peeks(x, 0, 4), -1, -3, -3, -3, -3, -3, -3, -3, -3);
        Due.row("names", peeks(x, 1, 4), 0, -3, -3, -3, -3, -3, -3, -3, -3);
        Due.row("no such place", peeks(x, 1, 16), -2, -2, -2, -2, -2, -2, -2, -2, -2);
        Due.row("no such row", peeks(x, 2, 16), -4, -4, -4, -4, -4, -4, -4, -4, -4);
        Due.row("the page beside", new long[] {x.peek(0, 0, 0, 3, 0), x.peek(0, 0, 1, 4, 7)}, -4, Float.floatToIntBits(5 / 16f));
    }

    private static long[] pokes(TailRecorder x, int page, int place) {
        long[] all = new long[23];
        for (int how = 0; how <= 22; how++) all[how] = x.poke(0, 1, page, place, how, 1);
        return all;
    }

    private static void poked() {
        TailRecorder x = new TailRecorder();
        x.make(0, 0, 1, 1000);
        x.example(0, 3, false, 42);
        x.example(0, 20, true, 6);
        Due.row("examples", pokes(x, 0, 3), -1, -3, -3, -3, -3, -3, -3, -3, -3, -1, -1, -3, -3, -3, -3, -3, -3, -3, -3, 0, 0, -3, -1);
        Due.row("names", pokes(x, 1, 0), -1, -3, -3, -3, -3, -3, -3, -3, -3, -1, -1, -3, -3, -3, -3, -3, -3, -3, -3, 0, -3, 0, -1);
        Due.row("no such place", pokes(x, 1, -1), -1, -2, -2, -2, -2, -2, -2, -2, -2, -1, -1, -2, -2, -2, -2, -2, -2, -2, -2, -2, -2, -2, -1);
        Due.row("no such row", pokes(x, 2, 0), -1, -4, -4, -4, -4, -4, -4, -4, -4, -1, -1, -4, -4, -4, -4, -4, -4, -4, -4, -4, -4, -4, -1);
        Due.row("then", new long[] {x.peek(0, 1, 0, 3, 0), x.peek(0, 1, 1, 0, 0), x.peek(0, 1, 1, 4, 0), x.examples(0), x.count(4)}, 1, 1, 6, 3, 7);
        Due.row("nothing at all", new long[] {x.poke(0, 1, 0, 3, 19, 100), x.peek(0, 1, 0, 3, 0), x.examples(0), x.poke(0, 1, 0, 3, 19, 0), x.examples(0)}, 0, -1, 2, 0, 2);
        Due.row("an empty row is what it was", new long[] {x.example(0, 5, true, 1), x.poke(0, 1, 0, 5, 20, 100), x.peek(0, 1, 0, 5, 0)}, -3, 0, 100);
        Due.row("not into pages of counts", new long[] {x.record(0, 1, 1, 0), x.poke(0, 0, 0, 1, 19, 1), x.poke(0, 0, 0, 1, 20, 1), x.poke(0, 0, 0, 1, 21, 1), x.at(0, 1)}, 1, -3, -3, -3, 1);
        // 1000 by two digits ends with place 10 of page 31
        x.make(0, 0, 2, 1000);
        x.example(0, 1000, false, 3);
        Due.row("a place behind the last slot", new long[] {x.poke(0, 1, 31, 15, 20, 9), x.peek(0, 1, 31, 15, 0), x.peek(0, 1, 31, 10, 0), x.examples(0)}, 0, 9, 3, 2);
    }

    private static void kept() {
        TailRecorder x = new TailRecorder();
        x.make(0, 0, 1, 1000);
        x.make(1, 0, 1, 1000);
        x.record(0, 3, 1, 0);
        x.example(0, 3, false, 42);
        x.shelve(0);
        x.halve(0);
        x.shelve(0);
        x.add(0, 0);
        Due.row("beside what becomes of the page", new long[] {x.kind(0, 0), x.examples(0), x.peek(0, 1, 0, 3, 0)}, 0, 1, 42);
        x.swap();
        x.swap();
        Due.row("not of what is cleared", new long[] {x.examples(0), x.peek(0, 1, 0, 3, 0), x.example(0, 3, true, 1)}, 0, -4, 0);
        x.make(0, 0, 1, 1000);
        Due.row("not of what is made", new long[] {x.examples(0), x.peek(0, 1, 0, 3, 0), x.example(0, 3, false, 1)}, 0, -4, 0);
        x.pack(0);
        x.unpack(0);
        Due.row("not of what is unpacked", new long[] {x.examples(0), x.peek(0, 1, 0, 3, 0)}, 0, -4);
    }
}
