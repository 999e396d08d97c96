/** Promises 26 begin, 27 write, 28 stop, 29 swap, 30 read. */
public final class PairTest {
    private static final long TOP = 1000000000000L;

    public static void main(String[] args) {
        beginning();
        writing();
        swapping();
        madeAnew();
        Due.finish();
    }

    private static void beginning() {
        TailRecorder x = new TailRecorder();
        x.make(1, 0, 1, 1000);
        Due.row("the active one was never made", new long[] {x.begin(0), x.swap(), x.read(), x.count(4)}, -1, -1, -1, 1);
        x.make(0, 0, 1, 1000);
        Due.row("begin", new long[] {x.begin(0), x.begin(3), x.count(2), x.begin(0), x.begin(4), x.begin(-1), x.begin(Integer.MIN_VALUE), x.count(2), x.count(4)},
            0, 0, 9, -1, -1, -1, -1, 9, 4);
        Due.row("stop", new long[] {x.stop(1), x.stop(4), x.stop(-1), x.stop(0), x.count(2), x.stop(0), x.stop(3), x.count(2), x.count(4)}, -1, -1, -1, 1, 8, -1, 0, 0, 6);
        Due.row("again", new long[] {x.begin(2), x.begin(1), x.begin(0), x.begin(3), x.stop(2), x.count(2)}, 0, 0, 0, 0, 3, 11);
    }

    private static void writing() {
        TailRecorder x = new TailRecorder();
        x.make(0, 1, 1, 1000);
        x.make(1, 0, 1, 2000);
        Due.row("who does not write", new long[] {x.write(0, 5, 1, 0), x.write(-1, 5, 1, 0), x.write(4, 5, 1, 0), x.total(0)}, -1, -1, -1, 0);
        x.begin(2);
        Due.row("write", new long[] {x.write(2, 5, 3, 0), x.write(2, 15, 3, 5), x.at(0, 5), x.at(0, 10), x.total(0), x.total(1), x.count(4)}, 3, 3, 6, 3, 12, 0, 5);
        Due.row("it can't be", new long[] {x.write(2, 1001, 1, 0), x.write(2, -1, 1, 0), x.write(2, 1000, TOP, 0), x.write(2, 900, 1, 0), x.count(4)}, -2, -2, TOP, 1, 7);
        Due.row("other n, intervals", new long[] {x.write(2, 5, 0, 0), x.write(2, 5, TOP + 1, 0), x.write(2, 5, 1, -1), x.write(2, 2000, -4, 0), x.count(4)}, -1, -1, -1, -1, 7);
        x.swap();
        x.begin(0);
        Due.row("each to its own", new long[] {x.write(0, 2000, 1, 0), x.write(2, 2000, 1, 0), x.write(2, 0, 1, 0), x.total(1), x.at(0, 0)}, 1, -2, 1, 1, 1);
    }

    private static void swapping() {
        TailRecorder x = new TailRecorder();
        x.make(0, 0, 1, 1000);
        Due.row("both were not made", new long[] {x.swap(), x.count(1), x.count(3), x.count(4)}, -1, 0, -1, 1);
        x.make(1, 0, 1, 1000);
        x.begin(0);
        x.write(0, 7, 4, 0);
        x.record(1, 9, 9, 0);
        x.example(1, 9, true, 9);
        Due.row("nothing rests", new long[] {x.read(), x.count(3)}, -1, -1);
        Due.row("swap", new long[] {x.swap(), x.count(1), x.count(3), x.total(1), x.kind(1, 0), x.examples(1), x.setting(1, 2), x.count(2)}, 1, 1, 0, 0, 0, 0, 1000, 1);
        Due.row("somebody writes to it", new long[] {x.read(), x.swap(), x.begin(1), x.swap(), x.count(1)}, -2, -2, 1, -2, 1);
        x.write(0, 8, 1, 0);
        x.write(1, 8, 100, 0);
        Due.row("he ends", new long[] {x.stop(0), x.read(), x.read(), x.total(1)}, 1, 5, 5, 100);
        Due.row("while somebody writes to the active one", new long[] {x.swap(), x.total(0), x.total(1), x.count(1), x.count(3), x.read(), x.swap()}, 0, 0, 100, 0, 1, -2, -2);
        Due.row("then", new long[] {x.stop(1), x.read(), x.record(1, 5, 1, 0), x.read(), x.swap(), x.read()}, 0, 100, 1, 101, 1, 0);
        Due.row("records that are not of the pair", new long[] {x.make(2, 0, 1, 1000), x.record(2, 1, 1, 0), x.swap(), x.total(2)}, 112, 1, 0, 1);
        Due.row("what is cleared has no kinds", new long[] {x.record(0, 1, 3, 0), x.record(1, 1, 3, 0), x.shelve(1), x.kind(1, 0), x.swap(), x.kind(1, 0), x.room(1)},
            3, 3, 1, 10, 1, 0, 0);
    }

    private static void madeAnew() {
        TailRecorder x = new TailRecorder();
        x.make(0, 0, 1, 1000);
        x.make(1, 0, 1, 1000);
        x.begin(3);
        x.write(3, 5, 1, 0);
        Due.row("writers write on", new long[] {x.make(0, 1, 2, 2000), x.count(2), x.write(3, 2000, 2, 0), x.total(0), x.swap(), x.read(), x.stop(3), x.read()},
            x.slot(2, 2000) + 1, 8, 2, 2, 1, -2, 0, 2);
        x.pack(0);
        x.make(0, 0, 1, 1000);
        Due.row("what rests is made anew", new long[] {x.count(3), x.read(), x.unpack(0), x.read(), x.count(3)}, 0, 0, x.slot(2, 2000) + 1, 2, 0);
    }
}
