/** What Terms IV and promises 26 to 30 say of the pair and its writers, at each boundary. */
public final class EdgePairTest {
    private static final long TOP = 1000000000000L;
    private static final long MOST = 1000000000000000L;
    private static final int[] OUTSIDE = {-1, 4, 5, 256, Integer.MIN_VALUE, Integer.MAX_VALUE};

    public static void main(String[] args) {
        activeIs0AtFirst();
        writersAre0To3();
        whoWritesAlready();
        theActiveOneWasNeverMade();
        fromThenOn();
        whoDoesNotWrite();
        writtenAsByRecord();
        writtenTooMuch();
        stopTellsHowMany();
        swapOfBothMade();
        swapWhileSomebodyWrites();
        swapClears();
        swapTellsTheActiveOne();
        nothingRests();
        somebodyWritesToWhatRests();
        theLatestRests();
        madeWritersWriteOn();
        undoneRecorders();
        Due.finish();
    }

    private static TailRecorder pair() {
        TailRecorder x = new TailRecorder();
        x.make(0, 0, 1, 1000);
        x.make(1, 0, 1, 1000);
        return x;
    }

    private static void activeIs0AtFirst() {
        Due.sentence("one of them is ACTIVE (0 at first)");
        TailRecorder x = new TailRecorder();
        Due.due("of a new object", x.count(1), 0);
        x.make(1, 0, 1, 1000);
        Due.due("recorder 1 is made first", x.count(1), 0);
        x.make(0, 0, 1, 1000);
        Due.row("begin", new long[] {x.begin(0), x.count(1)}, 0, 0);
    }

    private static void writersAre0To3() {
        Due.sentence("WRITERS 0 to 3; NONE, and nothing happens, without it");
        TailRecorder x = pair();
        for (int w : OUTSIDE) Due.row("writer " + w, new long[] {x.begin(w), x.write(w, 5, 1, 0), x.stop(w), x.count(2), x.count(4), x.total(0)}, -1, -1, -1, 0, 2, 0);
        for (int w = 0; w < 4; w++) Due.row("writer " + w, new long[] {x.begin(w), x.write(w, 5, 1, 0), x.count(2)}, 0, w + 1, (2 << w) - 1);
        for (int w : OUTSIDE) Due.row("writer " + w + ", while all write", new long[] {x.begin(w), x.write(w, 5, 1, 0), x.stop(w), x.count(2), x.total(0)}, -1, -1, -1, 15, 4);
        for (int w = 0; w < 4; w++) Due.row("writer " + w, new long[] {x.stop(w), x.count(2)}, 3 - w, 15 - ((2 << w) - 1));
    }

    private static void whoWritesAlready() {
        Due.sentence("26: NONE, and nothing happens, if it writes already");
        TailRecorder x = pair();
        Due.row("begin", new long[] {x.begin(2), x.begin(2), x.count(2), x.count(4), x.swap(), x.begin(2), x.count(4)}, 0, -1, 4, 3, 1, -1, 4);
        Due.row("it writes on to the same", new long[] {x.write(2, 5, 1, 0), x.total(0), x.total(1)}, 1, 1, 0);
        Due.row("when it ended it can", new long[] {x.stop(2), x.begin(2), x.count(2)}, 0, 1, 4);
    }

    private static void theActiveOneWasNeverMade() {
        Due.sentence("26: NONE, and nothing happens, if the ACTIVE RECORDER was never MADE");
        TailRecorder x = new TailRecorder();
        Due.row("none was made", new long[] {x.begin(0), x.count(2), x.count(4)}, -1, 0, 0);
        x.make(1, 0, 1, 1000);
        x.make(2, 0, 1, 1000);
        Due.row("others were made", new long[] {x.begin(0), x.count(2), x.count(4)}, -1, 0, 2);
        Due.row("made, and made undone", new long[] {x.make(0, 0, 1, 1000), x.undo(), x.begin(0), x.count(2)}, 112, 2, -1, 0);
        Due.row("made", new long[] {x.make(0, 0, 1, 1000), x.begin(0), x.count(2)}, 112, 0, 1);
        x = new TailRecorder();
        Due.fill(x, 165, 0, 1, 232, 7);
        Due.row("unpacked is made", new long[] {x.unpack(0), x.begin(0), x.count(2)}, 112, 0, 1);
    }

    private static void fromThenOn() {
        Due.sentence("its RECORDER is the ACTIVE one, from then on");
        TailRecorder x = pair();
        x.begin(0);
        x.swap();
        x.begin(1);
        Due.row("each to its own", new long[] {x.write(0, 5, 3, 0), x.write(1, 5, 4, 0), x.total(0), x.total(1)}, 3, 4, 3, 4);
        x.stop(0);
        x.swap();
        x.begin(0);
        Due.row("after another swap", new long[] {x.write(1, 5, 4, 0), x.write(0, 5, 1, 0), x.total(0), x.total(1)}, 8, 1, 1, 8);
    }

    private static void whoDoesNotWrite() {
        Due.sentence("27, 28: NONE, and nothing happens, if it does not write");
        TailRecorder x = pair();
        x.begin(1);
        Due.row("another one writes", new long[] {x.write(0, 5, 1, 0), x.write(2, 5, 1, 0), x.stop(0), x.stop(2), x.write(0, 1001, 1, 0), x.total(0), x.count(2), x.count(4)}, -1, -1, -1, -1, -1, 0, 2, 3);
        Due.row("it ended", new long[] {x.stop(1), x.stop(1), x.write(1, 5, 1, 0), x.total(0), x.count(4)}, 0, -1, -1, 0, 4);
    }

    private static void writtenAsByRecord() {
        Due.sentence("27: UNITS of v's SLOT then; -2: it can't be; NONE as for record()");
        TailRecorder x = pair();
        x.begin(3);
        Due.row("n", new long[] {x.write(3, 5, 0, 0), x.write(3, 5, -1, 0), x.write(3, 5, TOP + 1, 0), x.total(0), x.write(3, 5, 1, 0), x.write(3, 5, TOP, 0), x.total(0)}, -1, -1, -1, 0, 1, TOP + 1, TOP + 1);
        Due.row("v", new long[] {x.write(3, -1, 1, 0), x.write(3, 1001, 1, 0), x.write(3, 1023, 1, 0), x.count(4), x.write(3, 0, 1, 0), x.write(3, 1000, 1, 0), x.count(4)}, -2, -2, -2, 5, 1, 1, 7);
        Due.row("intervals", new long[] {x.write(3, 60, 1, -1), x.write(3, 1001, 1, -1), x.count(4), x.write(3, 60, 1, 30), x.at(0, 30), x.write(3, 59, 1, 30), x.at(0, 28), x.count(4)}, -1, -1, 7, 1, 1, 1, 0, 8);
        x.make(0, 0, 1, 2000);
        Due.row("1000 at most", new long[] {x.write(3, 1002, 1, 1), x.total(0), x.write(3, 1001, 1, 1), x.total(0)}, -2, 0, 10, 1001);
    }

    private static void writtenTooMuch() {
        Due.sentence("27: -2, and nothing happens: would a SLOT have more than it may");
        TailRecorder x = pair();
        Due.fill(x, Due.packed(0, 1, 1000, 0, 0, 0, MOST - 1));
        x.unpack(0);
        x.begin(0);
        Due.row("write", new long[] {x.write(0, 3, 2, 0), x.write(0, 6, 2, 3), x.at(0, 6), x.count(4), x.write(0, 6, 1, 3), x.at(0, 3), x.write(0, 3, 1, 0), x.total(0)}, -2, -2, 0, 4, 1, MOST, -2, MOST + 1);
    }

    private static void stopTellsHowMany() {
        Due.sentence("28: how many write on");
        TailRecorder x = pair();
        x.begin(0);
        x.begin(1);
        x.swap();
        x.begin(2);
        Due.row("of both recorders", new long[] {x.stop(1), x.stop(2), x.count(2), x.stop(0), x.count(2), x.stop(0)}, 2, 1, 1, 0, 0, -1);
    }

    private static void swapOfBothMade() {
        Due.sentence("29: NONE, and nothing happens, unless both were MADE");
        TailRecorder x = new TailRecorder();
        Due.row("none was made", new long[] {x.swap(), x.count(1), x.count(3), x.count(4)}, -1, 0, -1, 0);
        x.make(0, 0, 1, 1000);
        x.make(2, 0, 1, 1000);
        x.make(3, 0, 1, 1000);
        Due.row("the active one was made", new long[] {x.swap(), x.count(1), x.count(3), x.count(4), x.read()}, -1, 0, -1, 3, -1);
        x = new TailRecorder();
        x.make(1, 0, 1, 1000);
        Due.row("the other one was made", new long[] {x.swap(), x.count(1), x.count(3), x.count(4), x.read()}, -1, 0, -1, 1, -1);
        x.make(0, 0, 1, 1000);
        Due.row("both were made", new long[] {x.swap(), x.count(1), x.count(3), x.count(4), x.read()}, 1, 1, 0, 3, 0);
    }

    private static void swapWhileSomebodyWrites() {
        Due.sentence("is somebody writing who began with the RECORDER that is not ACTIVE, it can't be (-2)");
        for (int w = 0; w < 4; w++) {
            TailRecorder x = pair();
            x.begin(w);
            x.record(1, 5, 7, 0);
            Due.row("to the active one: it can be", new long[] {x.swap(), x.count(1), x.total(1)}, 1, 1, 0);
            x.record(0, 5, 2, 0);
            int acts = x.count(4);
            Due.row("to the one that is not", new long[] {x.swap(), x.count(1), x.count(3), x.total(0), x.count(4)}, -2, 1, 0, 2, acts);
            int other = (w + 1) % 4;
            x.begin(other);
            Due.row("to both", new long[] {x.swap(), x.stop(other), x.swap(), x.stop(w), x.swap(), x.total(0)}, -2, 1, -2, 0, 0, 0);
        }
    }

    private static void swapClears() {
        Due.sentence("else that one is CLEARED (all 0, no EXAMPLES)");
        TailRecorder x = pair();
        x.make(2, 0, 1, 1000);
        for (int r = 0; r < 3; r++) {
            x.record(r, 0, 5, 0);
            x.record(r, 1000, 5, 0);
            x.example(r, 1000, true, 5);
        }
        Due.row("swap", new long[] {x.swap(), x.total(1), x.at(1, 0), x.at(1, 1000), x.setting(1, 4), x.examples(1), x.peek(1, 1, 6, 15, 0), x.kind(1, 6), x.room(1), x.setting(1, 2)}, 1, 0, 0, 0, 0, 0, -4, 0, 0, 1000);
        Due.row("not the others", new long[] {x.total(0), x.examples(0), x.kind(0, 6), x.total(2), x.examples(2)}, 10, 1, 2, 10, 1);
        Due.row("an example may come where a name was", new long[] {x.example(1, 1000, false, 3), x.example(0, 1000, false, 3)}, 0, -3);
        Due.row("places beyond the slots, too", new long[] {x.make(0, 0, 2, 1000), x.record(0, 1000, 2, 0), x.poke(0, 0, 31, 15, 2, 9), x.swap(), x.record(0, 1000, 2, 0), x.peek(0, 0, 31, 15, 2)}, 507, 2, 0, 0, 2, 0);
    }

    private static void swapTellsTheActiveOne() {
        Due.sentence("29: SWAP: the ACTIVE RECORDER then");
        TailRecorder x = pair();
        Due.row("swap", new long[] {x.swap(), x.count(1), x.swap(), x.count(1), x.swap(), x.count(1), x.begin(0)}, 1, 1, 0, 0, 1, 1, 1);
    }

    private static void nothingRests() {
        Due.sentence("30: NONE: nothing RESTS (since a SWAP)");
        TailRecorder x = new TailRecorder();
        Due.row("of a new object", new long[] {x.read(), x.count(3)}, -1, -1);
        x = pair();
        Due.row("no swap", new long[] {x.read(), x.count(3), x.begin(0), x.read()}, -1, -1, 0, -1);
        Due.row("a swap", new long[] {x.stop(0), x.swap(), x.read(), x.count(3)}, 0, 1, 0, 0);
        Due.row("undone", new long[] {x.undo(), x.read(), x.count(3)}, 4, -1, -1);
    }

    private static void somebodyWritesToWhatRests() {
        Due.sentence("READ: of what RESTS, if nobody writes to it: TOTAL; -2: somebody writes to it");
        TailRecorder x = pair();
        x.record(0, 5, 3, 0);
        x.begin(1);
        x.begin(2);
        x.swap();
        x.begin(0);
        Due.row("two write to it", new long[] {x.read(), x.stop(1), x.read(), x.write(2, 5, 1, 0), x.stop(2), x.read()}, -2, 2, -2, 4, 1, 4);
        Due.row("one writes to the other one", new long[] {x.count(2), x.write(0, 5, 9, 0), x.read(), x.read()}, 1, 9, 4, 4);
        Due.row("record is nobody who writes", new long[] {x.record(0, 6, 2, 0), x.read()}, 2, 6);
    }

    private static void theLatestRests() {
        Due.sentence("READ: of what RESTS (since a SWAP; the latest)");
        TailRecorder x = pair();
        x.record(0, 5, 3, 0);
        x.swap();
        x.record(1, 5, 4, 0);
        Due.row("0, then 1, then 0", new long[] {x.read(), x.swap(), x.read(), x.record(0, 5, 8, 0), x.read(), x.swap(), x.read(), x.count(3)}, 3, 0, 4, 8, 4, 1, 8, 0);
    }

    private static void madeWritersWriteOn() {
        Due.sentence("5: a RECORDER is MADE in place of what is there (WRITERS who write to it write on)");
        TailRecorder x = pair();
        x.begin(1);
        x.write(1, 1000, 1, 0);
        Due.row("made", new long[] {x.make(0, 1, 1, 2000), x.count(2), x.begin(1), x.write(1, 2000, 2, 0), x.total(0), x.kind(0, 7)}, 128, 2, -1, 2, 2, 7);
        x.swap();
        Due.row("made while it rests", new long[] {x.make(0, 0, 1, 1000), x.count(3), x.read(), x.write(1, 2000, 1, 0), x.write(1, 1000, 1, 0), x.stop(1), x.read()}, 112, 0, -2, -2, 1, 0, 1);
        x.begin(3);
        Due.fill(x, 165, 0, 1, 232, 7, 2);
        Due.row("unpacked likewise", new long[] {x.unpack(1), x.count(2), x.write(3, 0, 1, 0), x.total(1)}, 112, 8, 2, 2);
    }

    private static void undoneRecorders() {
        Due.sentence("ACTS: BEGINS, WRITES, ENDS, SWAP can be UNDONE");
        TailRecorder x = pair();
        x.begin(0);
        x.write(0, 5, 1, 0);
        x.swap();
        x.stop(0);
        Due.row("ends", new long[] {x.undo(), x.count(2), x.read(), x.write(0, 5, 1, 0), x.undo()}, 5, 1, -2, 2, 5);
        Due.row("swap", new long[] {x.undo(), x.count(1), x.count(3), x.read(), x.total(0)}, 4, 0, -1, -1, 1);
        Due.row("writes", new long[] {x.undo(), x.total(0), x.count(2)}, 3, 0, 1);
        Due.row("begins", new long[] {x.undo(), x.count(2), x.write(0, 5, 1, 0), x.begin(0)}, 2, 0, -1, 0);
    }
}
