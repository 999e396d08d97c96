/** Promises 31 undo, 33 count. */
public final class UndoTest {
    public static void main(String[] args) {
        eachAct();
        theLastEight();
        swapsBack();
        whatIsNoAct();
        whatHappensNot();
        theTape();
        Due.finish();
    }

    /** All that can be looked at, but for the tape and how many acts can be undone. */
    private static long[] look(TailRecorder x) {
        java.util.ArrayList<Long> all = new java.util.ArrayList<>();
        for (int what = 0; what < 4; what++) all.add((long) x.count(what));
        all.add(x.read());
        for (int r = 0; r < 4; r++) {
            for (int what = 0; what < 5; what++) all.add(x.setting(r, what));
            all.add(x.total(r));
            all.add((long) x.examples(r));
            for (int page = 0; page < 7; page++) all.add((long) x.kind(r, page));
            for (int place = 0; place < 13; place++) all.add(x.peek(r, 1, 0, place, 0));
            for (int v = 0; v < 5; v++) all.add(x.at(r, v));
            all.add(x.at(r, 30));
            all.add(x.at(r, 40));
            all.add(x.below(r, 1000));
        }
        return all.stream().mapToLong(k -> k).toArray();
    }

    private static TailRecorder begun() {
        TailRecorder x = new TailRecorder();
        x.make(0, 0, 1, 1000);
        x.make(1, 0, 2, 1000);
        x.record(0, 30, 2, 3);
        x.record(0, 40, 70, 0);
        x.shelve(0);
        x.record(1, 1000, 5, 9);
        x.record(1, 12, 50, 0);
        x.example(1, 12, true, 4);
        x.begin(1);
        x.swap();
        x.begin(2);
        x.write(2, 9, 9, 0);
        x.record(0, 3, 128, 0);
        return x;
    }

    /** An act: what it answers if it was done. */
    private static int act(TailRecorder x, int which) {
        switch (which) {
            case 0: return x.make(0, 1, 2, 2000);
            case 1: return x.make(3, 1, 2, 2000);
            case 2: return (int) x.record(0, 900, 300, 17);
            case 3: return (int) x.add(0, 1);
            case 4: return (int) x.takeOff(0, 0);
            case 5: return (int) x.halve(0);
            case 6: return x.shelve(0);
            case 7: return x.poke(0, 0, 0, 3, 2, 100);
            case 8: return x.example(0, 3, true, 7);
            case 9: Due.fill(x, 165, 1, 2, 232, 7, 8); return x.unpack(0);
            case 10: return x.begin(0);
            case 11: return (int) x.write(1, 500, 7, 11);
            case 12: return x.stop(1);
            default: x.stop(1); x.record(0, 1, 1, 0); x.example(0, 2, false, 1); return x.swap();
        }
    }

    private static void eachAct() {
        for (int which = 0; which < 14; which++) {
            TailRecorder x = begun();
            long[] before = look(x);
            int done = act(x, which);
            Due.due("act " + which + " is done", done < 0 ? done : 0, 0);
            boolean same = java.util.Arrays.equals(before, look(x));
            Due.due("act " + which + " changes something", same ? 1 : 0, 0);
            Due.due("eight", x.count(4), 8);
            Due.due("undo act " + which, x.undo(), 7);
            if (which == 13) Due.row("undo the three ahead of it", new long[] {x.undo(), x.undo(), x.undo()}, 6, 5, 4);
            Due.row("after act " + which, look(x), before);
        }
    }

    private static void theLastEight() {
        TailRecorder x = new TailRecorder();
        x.make(0, 0, 1, 1000);
        for (int k = 1; k <= 20; k++) {
            x.record(0, 5, 1, 0);
            Due.due("acts", x.count(4), Math.min(8, k + 1));
        }
        for (int k = 7; k >= 0; k--) Due.row("undo", new long[] {x.undo(), x.at(0, 5), x.count(4)}, k, 13 + k - 1, k);
        Due.row("none can", new long[] {x.undo(), x.at(0, 5), x.count(0)}, -1, 12, 1);
        Due.row("acts anew", new long[] {x.record(0, 5, 1, 0), x.halve(0), x.undo(), x.undo(), x.undo(), x.at(0, 5)}, 13, 6, 1, 0, -1, 12);
        x = new TailRecorder();
        x.make(2, 0, 1, 1000);
        x.record(2, 5, 200, 0);
        x.record(2, 6, 200, 0);
        x.shelve(2);
        x.record(2, 5, 70000, 0);
        Due.row("kinds of pages, too", new long[] {x.kind(2, 0), x.undo(), x.kind(2, 0), x.undo(), x.kind(2, 0), x.undo(), x.undo(), x.kind(2, 0), x.undo(), x.kind(2, 0), x.count(0), x.undo()},
            5, 4, 10, 3, 3, 2, 1, 0, 0, -1, 0, -1);
        // of one recorder and another by turns, and a large one in place of a small one
        x.make(0, 0, 1, 1000);
        x.record(0, 1, 1, 0);
        x.make(1, 0, 2, 1000000000000L);
        x.record(1, 1000000000000L, 6, 0);
        x.make(0, 0, 2, 1000000000000L);
        x.record(0, 999999999999L, 5, 0);
        x.make(1, 0, 1, 1000);
        Due.row("by turns", new long[] {x.undo(), x.at(1, 1000000000000L), x.kind(1, 270), x.undo(), x.undo(), x.at(0, 1), x.kind(0, -1), x.total(0), x.undo(), x.total(1), x.undo(), x.count(0)},
            6, 6, 2, 5, 4, 1, 7, 1, 3, 0, 2, 1);
    }

    private static void swapsBack() {
        TailRecorder x = new TailRecorder();
        x.make(0, 0, 1, 1000);
        x.make(1, 0, 1, 1000);
        x.record(0, 1, 2, 0);
        x.record(1, 1, 3, 0);
        Due.row("swaps", new long[] {x.swap(), x.total(1), x.swap(), x.total(0)}, 1, 0, 0, 0);
        Due.row("undone", new long[] {x.undo(), x.total(0), x.total(1), x.count(1), x.count(3), x.read(), x.undo(), x.total(0), x.total(1), x.count(1), x.count(3), x.read()},
            5, 2, 0, 1, 0, 2, 4, 2, 3, 0, -1, -1);
    }

    private static void whatIsNoAct() {
        TailRecorder x = begun();
        x.make(3, 0, 1, 1000);
        int acts = x.count(4);
        x.feed(1, 2, 3, 4, 5);
        x.end(3);
        x.pack(0);
        x.read();
        x.octet(0);
        x.same(0, 1);
        x.unpack(-1);
        Due.row("the last act is the one ahead of these", new long[] {acts, x.count(4), x.undo(), x.count(0)}, 8, 8, 7, 3);
    }

    private static void whatHappensNot() {
        TailRecorder x = new TailRecorder();
        x.make(0, 0, 1, 1000);
        x.make(1, 0, 1, 1000);
        x.example(1, 12, true, 4);
        x.record(1, 5, 1, 0);
        while (x.undo() > 2) { }
        x.example(1, 12, true, 4);
        x.record(1, 5, 1, 0);
        long[] before = look(x);
        Due.row("refused", new long[] {
            x.make(0, 2, 1, 1000), x.record(0, 5, 0, 0), x.record(0, 5000, 1, 0), x.record(2, 5, 1, 0), x.add(0, 3), x.takeOff(0, 1), x.halve(2), x.shelve(2),
            x.poke(1, 0, 0, 77, 2, 1), x.poke(0, 0, 0, 0, 2, 101), x.poke(0, 1, 5, 0, 20, 1), x.example(1, 12, false, 1), x.example(0, 5, false, 101), x.begin(9), x.write(3, 1, 1, 0), x.stop(3)},
            -1, -1, -2, -1, -1, -2, -1, -1, -2, -1, -4, -3, -1, -1, -1, -1);
        x.end(0);
        Due.due("unpack of nothing", x.unpack(0), -2 - 1);
        Due.row("all is as it was", look(x), before);
        Due.row("no acts", new long[] {x.count(4), x.undo()}, 4, 3);
        Due.row("count", new long[] {x.count(-1), x.count(6), x.count(Integer.MIN_VALUE), x.count(Integer.MAX_VALUE)}, -1, -1, -1, -1);
    }

    /** The tape is of no act: what undo brings back is the recorder (NOTES.md). */
    private static void theTape() {
        TailRecorder x = new TailRecorder();
        x.make(0, 0, 1, 1000);
        x.record(0, 5, 1, 0);
        x.pack(0);
        Due.row("unpack, undo", new long[] {x.unpack(1), x.count(5), x.undo(), x.count(0), x.count(5)}, 112, 0, 2, 1, 0);
        Due.row("feed, undo", new long[] {x.feed(9, 9, 9, 9, 9), x.undo(), x.count(5), x.octet(3)}, 20, 1, 20, 9);
    }
}
