/** Promises 5 make, 6 slot, 7 edge, 34 setting. */
public final class SlotTest {
    private static final long TOP = 1000000000000L;

    public static void main(String[] args) {
        slots();
        edges();
        made();
        settings();
        Due.finish();
    }

    private static void slots() {
        TailRecorder x = new TailRecorder();
        Due.row("slots of one digit", new long[] {
            x.slot(1, 0), x.slot(1, 1), x.slot(1, 31), x.slot(1, 32), x.slot(1, 33), x.slot(1, 34), x.slot(1, 63), x.slot(1, 64),
            x.slot(1, 127), x.slot(1, 128), x.slot(1, 1000), x.slot(1, TOP), x.slot(1, Long.MAX_VALUE)},
            0, 1, 31, 32, 32, 33, 47, 48, 63, 64, 111, 589, 959);
        Due.row("slots of two digits", new long[] {
            x.slot(2, 0), x.slot(2, 255), x.slot(2, 256), x.slot(2, 257), x.slot(2, 258), x.slot(2, 511), x.slot(2, 512),
            x.slot(2, 1000), x.slot(2, TOP), x.slot(2, Long.MAX_VALUE)},
            0, 255, 256, 256, 257, 383, 384, 506, 4328, 7295);
        Due.row("without these", new long[] {
            x.slot(0, 1), x.slot(3, 1), x.slot(-1, 1), x.slot(1, -1), x.slot(2, Long.MIN_VALUE), x.slot(Integer.MAX_VALUE, 5)},
            -1, -1, -1, -1, -1, -1);
        for (int digits = 1; digits <= 2; digits++) {
            for (int bit = 0; bit < 63; bit++) {
                x = new TailRecorder();
                long v = 1L << bit;
                long high = x.edge(digits, v, 1);
                Due.due("the slot behind that of " + v, high == Long.MAX_VALUE ? 1 : x.slot(digits, high + 1) - x.slot(digits, v), 1);
                Due.due("a power's own slot", x.edge(digits, v, 0), v);
                Due.due("the one ahead ends there", x.edge(digits, v - 1, 1), v - 1);
            }
        }
    }

    private static void edges() {
        TailRecorder x = new TailRecorder();
        Due.row("of 1000 by one digit", new long[] {x.edge(1, 1000, 0), x.edge(1, 1000, 1), x.edge(1, 1000, 2)}, 992, 1023, 1007);
        Due.row("of 1000 by two", new long[] {x.edge(2, 1003, 0), x.edge(2, 1002, 1), x.edge(2, 1001, 2)}, 1000, 1003, 1001);
        Due.row("of narrow ones", new long[] {
            x.edge(1, 31, 0), x.edge(1, 31, 1), x.edge(1, 31, 2), x.edge(1, 33, 0), x.edge(1, 32, 1), x.edge(1, 33, 2), x.edge(2, 0, 2)},
            31, 31, 31, 32, 33, 32, 0);
        Due.row("of the highest", new long[] {
            x.edge(2, Long.MAX_VALUE, 0), x.edge(2, Long.MAX_VALUE, 1), x.edge(2, Long.MAX_VALUE, 2), x.edge(1, Long.MAX_VALUE, 0), x.edge(1, Long.MAX_VALUE, 2)},
            255L << 55, Long.MAX_VALUE, (255L << 55) + (1L << 54) - 1, 31L << 58, (31L << 58) + (1L << 57) - 1);
        Due.row("without these", new long[] {
            x.edge(0, 1, 0), x.edge(3, 1, 0), x.edge(1, -1, 0), x.edge(1, 1, -1), x.edge(1, 1, 3), x.edge(1, Long.MIN_VALUE, 1)},
            -1, -1, -1, -1, -1, -1);
    }

    private static void made() {
        TailRecorder x = new TailRecorder();
        Due.row("wrong ones", new long[] {
            x.make(-1, 0, 1, 1000), x.make(4, 0, 1, 1000), x.make(0, -1, 1, 1000), x.make(0, 2, 1, 1000), x.make(0, 0, 0, 1000),
            x.make(0, 0, 3, 1000), x.make(0, 0, 1, 999), x.make(0, 0, 1, TOP + 1), x.make(0, 0, 1, -1), x.make(0, 0, 1, Long.MIN_VALUE),
            x.make(0, 0, 1, Long.MAX_VALUE), x.count(0), x.count(4)},
            -1, -1, -1, -1, -1, -1, -1, -1, -1, -1, -1, 0, 0);
        Due.row("slots", new long[] {x.make(0, 0, 1, 1000), x.make(1, 1, 2, 1000), x.make(2, 0, 1, TOP), x.make(3, 1, 2, TOP)}, 112, 507, 590, 4329);
        Due.row("pages", new long[] {x.kind(0, -1), x.kind(1, -1), x.kind(2, -1), x.kind(3, -1), x.count(0)}, 7, 32, 37, 271, 15);
        x.record(0, 3, 9, 0);
        x.example(0, 3, false, 5);
        Due.due("in place of what is there", x.make(0, 0, 1, 1023), 112);
        Due.row("empty", new long[] {x.total(0), x.at(0, 3), x.kind(0, 0), x.examples(0), x.setting(0, 2), x.setting(0, 4)}, 0, 0, 0, 0, 1023, 0);
        x.record(0, 3, 9, 0);
        Due.row("nothing happens", new long[] {x.make(0, 0, 1, 999), x.total(0), x.setting(0, 2)}, -1, 9, 1023);
        x.make(3, 0, 1, 1000);
        Due.row("from a large one to a small one and back", new long[] {x.kind(3, -1), x.kind(3, 7), x.make(3, 0, 2, TOP), x.total(3), x.kind(3, 270)},
            7, -1, 4329, 0, 0);
    }

    private static void settings() {
        TailRecorder x = new TailRecorder();
        x.make(2, 1, 2, 123456);
        x.record(2, 5, 1, 1);
        Due.row("settings", new long[] {x.setting(2, 0), x.setting(2, 1), x.setting(2, 2), x.setting(2, 3), x.setting(2, 4)},
            1, 2, 123456, 9 * 128 + (123456 >> 9) + 1, 5);
        Due.row("without these", new long[] {x.setting(2, -1), x.setting(2, 5), x.setting(0, 0), x.setting(4, 0), x.setting(-1, 0)}, -1, -1, -1, -1, -1);
        // slot 506 is the last one, place 10 of page 31: the places behind it are none of the slots
        x.make(1, 0, 2, 1000);
        x.record(1, 1000, 2, 0);
        Due.row("a place behind the last slot", new long[] {x.poke(1, 0, 31, 11, 2, 7), x.setting(1, 4), x.total(1), x.peek(1, 0, 31, 11, 2)}, 0, 1, 2, 7);
    }
}
