import java.util.function.Consumer;

/** What Terms IV and promises 31, 33 say of acts, of undoing them and of counts, at each boundary. */
public final class EdgeActsTest {
    public static void main(String[] args) {
        eachActIsOne();
        whatIsNone();
        whatIsRefusedIsNone();
        lookingIsNone();
        theLast8();
        justEight();
        theLastFirst();
        noneCan();
        undoIsNoAct();
        kindsOfPagesToo();
        examplesToo();
        placesBeyondTheSlotsToo();
        whatWasThereToo();
        nothingOfALargerOne();
        theTapeStaysWhatItIs();
        countsAre0To5();
        recordersAsBits();
        writersAsBits();
        actsUpTo8();
        Due.finish();
    }

    private static TailRecorder begun() {
        TailRecorder x = new TailRecorder();
        x.make(0, 0, 1, 1000);
        x.make(1, 0, 1, 1000);
        x.record(1, 5, 2, 0);
        x.record(0, 5, 3, 0);
        return x;
    }

    /** 4 acts ahead of it: after it there are 5, and one undo takes it back alone. */
    private static void act(String call, Consumer<TailRecorder> of) {
        TailRecorder x = begun();
        of.accept(x);
        Due.row(call, new long[] {x.count(4), x.undo(), x.count(4), x.at(0, 5), x.total(0), x.total(1), x.count(0), x.count(1), x.count(2), x.count(3), x.examples(0), x.kind(0, 0), x.setting(0, 2)},
            5, 4, 4, 3, 3, 2, 3, 0, 0, -1, 0, 2, 1000);
    }

    private static void eachActIsOne() {
        Due.sentence("ACTS: MADE, RECORDING, ADDED, TAKEN OFF, HALVED, SHELVED, POKE, EXAMPLES, UNPACKED, BEGINS, WRITES, ENDS, SWAP");
        act("make", x -> x.make(0, 1, 2, 2000));
        act("make of another", x -> x.make(3, 1, 2, 2000));
        act("record", x -> x.record(0, 900, 7, 90));
        act("add", x -> x.add(0, 1));
        act("add to the other", x -> x.add(1, 0));
        act("takeOff", x -> x.takeOff(0, 1));
        act("halve", x -> x.halve(0));
        act("shelve", x -> x.shelve(0));
        act("poke", x -> x.poke(0, 0, 0, 5, 2, 100));
        act("example", x -> x.example(0, 5, false, 1));
        act("unpack", x -> { Due.fill(x, 165, 1, 1, 233, 7); x.unpack(0); });
        act("unpack into another", x -> { Due.fill(x, 165, 1, 1, 233, 7); x.unpack(2); });
        act("begin", x -> x.begin(0));
        act("swap", x -> x.swap());
        TailRecorder x = begun();
        x.begin(2);
        Due.row("write", new long[] {x.write(2, 5, 1, 0), x.count(4), x.undo(), x.at(0, 5), x.count(2)}, 4, 6, 5, 3, 4);
        Due.row("stop", new long[] {x.stop(2), x.count(4), x.undo(), x.count(2), x.write(2, 5, 1, 0)}, 0, 6, 5, 4, 4);
        x.example(0, 5, true, 7);
        Due.row("poke into names", new long[] {x.poke(0, 1, 0, 5, 19, 0), x.count(4), x.undo(), x.peek(0, 1, 0, 5, 0)}, 0, 8, 7, 7);
    }

    private static void whatIsNone() {
        Due.sentence("ACTS (the TAPE's calls are none)");
        TailRecorder x = begun();
        Due.row("feed, end, pack", new long[] {x.feed(1, 2, 3, 4, 5), x.end(3), x.pack(0), x.count(4), x.undo(), x.at(0, 5), x.count(5)}, 20, 3, 7, 4, 3, 0, 7);
    }

    private static void whatIsRefusedIsNone() {
        Due.sentence("and nothing happens (what is refused is no ACT)");
        TailRecorder x = begun();
        x.make(2, 1, 1, 1000);
        x.undo();
        Due.row("refused", new long[] {
            x.make(0, 0, 1, 999), x.record(0, 1001, 1, 0), x.record(0, 5, 0, 0), x.add(0, 2), x.takeOff(1, 0), x.halve(2), x.shelve(2), x.poke(0, 0, 0, 16, 2, 1), x.poke(0, 0, 1, 0, 2, 1),
            x.poke(0, 0, 0, 5, 1, 1), x.poke(0, 0, 0, 5, 2, 101), x.example(0, 1001, false, 1), x.unpack(0), x.unpack(4), x.begin(4), x.write(0, 5, 1, 0), x.stop(0), x.undo()},
            -1, -2, -1, -1, -2, -1, -1, -2, -4, -3, -1, -1, -3, -1, -1, -1, -1, 3);
        Due.row("the act ahead of them is the one undone", new long[] {x.at(0, 5), x.total(1), x.undo(), x.total(1)}, 0, 2, 2, 0);
        x = begun();
        x.begin(0);
        x.swap();
        Due.row("a swap that can't be", new long[] {x.swap(), x.count(4), x.undo(), x.count(1)}, -2, 6, 5, 0);
    }

    private static void lookingIsNone() {
        Due.sentence("ACTS (what only tells is none)");
        TailRecorder x = begun();
        x.octet(0);
        x.slot(1, 5);
        x.edge(1, 5, 0);
        x.at(0, 5);
        x.below(0, 5);
        x.total(0);
        x.rank(0, 5);
        x.about(0, 0);
        x.kind(0, 0);
        x.room(0);
        x.peek(0, 0, 0, 5, 0);
        x.examples(0);
        x.read();
        x.same(0, 1);
        x.count(4);
        x.setting(0, 0);
        Due.row("looked at", new long[] {x.count(4), x.undo(), x.at(0, 5)}, 4, 3, 0);
    }

    private static void theLast8() {
        Due.sentence("the last 8 can be UNDONE");
        TailRecorder x = new TailRecorder();
        x.make(0, 0, 1, 1000);
        for (int k = 1; k <= 8; k++) x.record(0, 5, 1, 0);
        Due.due("9 acts: 8 of them", x.count(4), 8);
        for (int k = 7; k >= 0; k--) Due.row("undo", new long[] {x.undo(), x.count(4), x.total(0)}, k, k, k);
        Due.row("the first one stays", new long[] {x.undo(), x.count(0), x.count(4)}, -1, 1, 0);
        for (int k = 1; k <= 30; k++) x.record(0, 5, 1, 0);
        for (int k = 7; k >= 0; k--) Due.row("undo", new long[] {x.undo(), x.total(0)}, k, 22 + k);
        Due.row("22 stay", new long[] {x.undo(), x.total(0)}, -1, 22);
    }

    private static void justEight() {
        Due.sentence("the last 8 (of just 8, of 7)");
        for (int acts = 7; acts <= 8; acts++) {
            TailRecorder x = new TailRecorder();
            x.make(0, 0, 1, 1000);
            for (int k = 1; k < acts; k++) x.record(0, 5, 1, 0);
            for (int k = acts - 1; k >= 0; k--) Due.row("undo", new long[] {x.undo(), x.count(4)}, k, k);
            Due.row("all of them", new long[] {x.undo(), x.count(0), x.total(0)}, -1, 0, -1);
        }
    }

    private static void theLastFirst() {
        Due.sentence("the last first");
        TailRecorder x = begun();
        x.record(0, 1, 1, 0);
        x.record(1, 1, 1, 0);
        x.begin(3);
        Due.row("undo", new long[] {x.undo(), x.count(2), x.total(1), x.undo(), x.total(1), x.total(0), x.undo(), x.total(0)}, 6, 0, 3, 5, 2, 4, 4, 3);
        Due.row("others in their place", new long[] {x.halve(0), x.halve(1), x.undo(), x.total(1), x.total(0), x.undo(), x.total(0)}, 1, 1, 5, 2, 1, 4, 3);
    }

    private static void noneCan() {
        Due.sentence("31: NONE, and nothing happens, if none can");
        TailRecorder x = new TailRecorder();
        Due.row("of a new object", new long[] {x.undo(), x.undo(), x.count(4), x.count(0)}, -1, -1, 0, 0);
        x.make(0, 0, 1, 1000);
        Due.row("one act", new long[] {x.undo(), x.undo(), x.undo(), x.count(4), x.count(0)}, 0, -1, -1, 0, 0);
        Due.row("an act behind that", new long[] {x.make(1, 0, 1, 1000), x.count(4), x.undo(), x.undo()}, 112, 1, 0, -1);
    }

    private static void undoIsNoAct() {
        Due.sentence("31: the last ACT is UNDONE: how many more can be");
        TailRecorder x = begun();
        Due.row("undo is not undone", new long[] {x.undo(), x.undo(), x.total(0), x.total(1), x.undo(), x.count(0), x.undo(), x.count(0)}, 3, 2, 0, 0, 1, 1, 0, 0);
    }

    private static void kindsOfPagesToo() {
        Due.sentence("UNDONE (KINDS of PAGES, too)");
        TailRecorder x = begun();
        x.shelve(0);
        x.record(0, 5, 70000, 0);
        x.record(0, 20, 1, 0);
        x.shelve(0);
        Due.row("kinds", new long[] {x.kind(0, 0), x.kind(0, 1), x.room(0)}, 5, 10, 64 + 32);
        Due.row("shelve", new long[] {x.undo(), x.kind(0, 0), x.kind(0, 1)}, 7, 5, 1);
        Due.row("record", new long[] {x.undo(), x.kind(0, 0), x.kind(0, 1)}, 6, 5, 0);
        Due.row("record of a text", new long[] {x.undo(), x.kind(0, 0), x.room(0)}, 5, 10, 32);
        Due.row("shelve", new long[] {x.undo(), x.kind(0, 0), x.room(0)}, 4, 2, 16);
        Due.row("record", new long[] {x.undo(), x.kind(0, 0), x.room(0)}, 3, 0, 0);
    }

    private static void examplesToo() {
        Due.sentence("UNDONE (EXAMPLES)");
        TailRecorder x = begun();
        x.example(0, 5, false, 1);
        x.example(0, 5, false, 2);
        x.poke(0, 1, 0, 5, 19, 0);
        Due.row("undo", new long[] {x.peek(0, 1, 0, 5, 0), x.undo(), x.peek(0, 1, 0, 5, 0), x.undo(), x.peek(0, 1, 0, 5, 0), x.undo(), x.peek(0, 1, 0, 5, 0)}, -1, 6, 2, 5, 1, 4, -4);
        Due.due("no row is left", x.example(0, 6, true, 1), 0);
    }

    private static void placesBeyondTheSlotsToo() {
        Due.sentence("UNDONE (PLACES beyond the SLOTS)");
        TailRecorder x = new TailRecorder();
        x.make(0, 0, 2, 1000);
        x.record(0, 1000, 2, 0);
        x.poke(0, 0, 31, 15, 2, 9);
        x.poke(0, 0, 31, 15, 2, 5);
        Due.row("undo", new long[] {x.undo(), x.peek(0, 0, 31, 15, 2), x.undo(), x.peek(0, 0, 31, 15, 2), x.at(0, 1000)}, 3, 9, 2, 0, 2);
    }

    private static void whatWasThereToo() {
        Due.sentence("UNDONE (MADE, UNPACKED, SWAP: what was there)");
        long top = 1000000000000L;
        TailRecorder x = new TailRecorder();
        x.make(0, 0, 2, top);
        x.make(1, 0, 2, top);
        x.record(1, top, 3, 0);
        x.example(1, top, true, 4);
        x.make(1, 1, 1, 1000);
        x.record(1, 1000, 4, 0);
        Due.fill(x, 165, 0, 1, 208, 15);
        x.unpack(1);
        x.swap();
        Due.row("swap, unpack", new long[] {x.undo(), x.setting(1, 2), x.undo(), x.setting(1, 2), x.setting(1, 0), x.at(1, 1000), x.kind(1, 6)}, 7, 2000, 6, 1000, 1, 4, 7);
        Due.row("record, make", new long[] {x.undo(), x.total(1), x.undo(), x.setting(1, 2), x.setting(1, 3), x.at(1, top), x.peek(1, 1, 270, 8, 0), x.kind(1, 270), x.total(1)}, 5, 0, 4, top, 4329, 3, 4, 2, 3);
        x.record(1, 7, 9, 0);
        x.swap();
        Due.row("swap", new long[] {x.total(1), x.examples(1), x.undo(), x.total(1), x.examples(1), x.at(1, 7), x.count(1)}, 0, 0, 5, 12, 1, 9, 0);
        x.swap();
        x.record(0, top, 6, 0);
        x.example(0, 0, false, 8);
        x.swap();
        Due.row("swap back", new long[] {x.total(0), x.examples(0), x.undo(), x.total(0), x.examples(0), x.peek(0, 1, 0, 0, 0), x.count(1), x.count(3), x.read()}, 0, 0, 7, 6, 1, 8, 1, 0, 6);
    }

    private static void nothingOfALargerOne() {
        Due.sentence("UNDONE (MADE: nothing is left of the larger one)");
        long top = 1000000000000L;
        TailRecorder x = new TailRecorder();
        x.make(0, 0, 1, 1000);
        x.record(0, 5, 1, 0);
        x.make(0, 0, 2, top);
        x.record(0, top, 3, 0);
        x.record(0, 2000, 3, 0);
        x.example(0, top, true, 4);
        Due.row("undo", new long[] {x.undo(), x.undo(), x.undo(), x.undo(), x.kind(0, -1), x.kind(0, 7), x.room(0), x.examples(0), x.total(0), x.setting(0, 4), x.about(0, 1), x.rank(0, 100000)},
            5, 4, 3, 2, 7, -1, 16, 0, 1, 1, 5, 5);
        Due.row("then", new long[] {x.shelve(0), x.shelve(0), x.halve(0), x.shelve(0), x.room(0), x.pack(0)}, 1, 0, 0, 1, 0, 5);
        long[] units = new long[4329];
        units[112] = 7;
        units[4328] = 7;
        Due.fill(x, Due.packed(0, 2, top, units));
        Due.row("unpacked and undone", new long[] {x.unpack(0), x.total(0), x.undo(), x.kind(0, -1), x.total(0), x.room(0), x.shelve(0), x.setting(0, 4), x.about(0, 0)}, 4329, 14, 6, 7, 0, 0, 0, 0, -2);
        x.record(0, 1000, 1, 0);
        Due.row("then", new long[] {x.shelve(0), x.total(0), x.below(0, 1000), x.rank(0, 100000), x.about(0, 1), x.about(0, 2), x.pack(0), x.add(0, 0)}, 1, 1, 0, 1000, 1000, 1007, 8, 2);
        x.make(2, 1, 1, 1000);
        Due.fill(x, Due.packed(0, 2, top, units));
        Due.row("of another sort", new long[] {x.unpack(2), x.undo(), x.setting(2, 0), x.shelve(2), x.kind(2, 7), x.room(2), x.total(2), x.examples(2)}, 4329, 7, 1, 0, -1, 0, 0, 0);
        Due.row("a larger one again", new long[] {x.make(0, 0, 2, top), x.total(0), x.room(0), x.shelve(0), x.examples(0), x.at(0, top), x.kind(0, 270)}, 4329, 0, 0, 0, 0, 0, 0);
    }

    private static void theTapeStaysWhatItIs() {
        Due.sentence("UNDONE (the TAPE is of no ACT, NOTES.md)");
        TailRecorder x = begun();
        x.pack(0);
        Due.row("unpack", new long[] {x.unpack(2), x.undo(), x.count(5), x.count(0)}, 112, 4, 0, 3);
        Due.row("feed, record", new long[] {x.feed(1, 2, 3, 4, 5), x.record(0, 5, 1, 0), x.undo(), x.undo(), x.count(5), x.octet(3)}, 20, 4, 4, 3, 20, 1);
    }

    private static void countsAre0To5() {
        Due.sentence("33: what 0 to 5; NONE for others");
        TailRecorder x = begun();
        x.begin(1);
        x.swap();
        x.pack(0);
        Due.row("count", new long[] {x.count(-1), x.count(0), x.count(1), x.count(2), x.count(3), x.count(4), x.count(5), x.count(6), x.count(Integer.MIN_VALUE), x.count(Integer.MAX_VALUE)},
            -1, 3, 1, 2, 0, 6, 7, -1, -1, -1);
    }

    private static void recordersAsBits() {
        Due.sentence("33: RECORDERS that were MADE, as bits");
        TailRecorder x = new TailRecorder();
        Due.row("count", new long[] {x.count(0), x.make(3, 0, 1, 1000), x.count(0), x.make(0, 0, 1, 1000), x.count(0), x.make(2, 0, 1, 1000), x.count(0), x.make(1, 0, 1, 1000), x.count(0),
            x.make(1, 0, 1, 1000), x.count(0)}, 0, 112, 8, 112, 9, 112, 13, 112, 15, 112, 15);
        Due.fill(x, 165, 0, 1, 232, 7);
        Due.row("undone, unpacked", new long[] {x.undo(), x.count(0), x.undo(), x.count(0), x.unpack(1), x.count(0)}, 4, 15, 3, 13, 112, 15);
    }

    private static void writersAsBits() {
        Due.sentence("33: WRITERS who write, as bits");
        TailRecorder x = begun();
        Due.row("count", new long[] {x.count(2), x.begin(3), x.count(2), x.begin(0), x.count(2), x.stop(3), x.count(2), x.begin(1), x.begin(2), x.count(2)}, 0, 0, 8, 0, 9, 1, 1, 0, 0, 7);
    }

    private static void actsUpTo8() {
        Due.sentence("33: ACTS that can be UNDONE");
        TailRecorder x = new TailRecorder();
        for (int k = 0; k < 12; k++) Due.row("count", new long[] {x.count(4), x.make(0, 0, 1, 1000)}, Math.min(k, 8), 112);
        Due.row("count", new long[] {x.count(4), x.undo(), x.undo(), x.count(4), x.make(0, 0, 1, 1000), x.count(4)}, 8, 7, 6, 6, 112, 7);
    }
}
