/** Promises 14 add, 15 takeOff, 16 halve. */
public final class MergeTest {
    private static final long TOP = 1000000000000L;
    private static final long MOST = 1000000000000000L;

    public static void main(String[] args) {
        adding();
        otherDigits();
        lowThatIsNotThere();
        tooManyUnits();
        takingOff();
        halving();
        withoutThese();
        Due.finish();
    }

    private static void adding() {
        TailRecorder x = new TailRecorder();
        x.make(0, 0, 1, 1000);
        x.make(1, 0, 1, 1000);
        x.record(0, 5, 3, 0);
        x.record(1, 5, 4, 0);
        x.record(1, 1000, 70000, 0);
        x.example(1, 5, false, 1);
        Due.row("add", new long[] {x.add(0, 1), x.at(0, 5), x.at(0, 1000), x.at(1, 5), x.total(1), x.examples(0)}, 70007, 7, 70000, 4, 70004, 0);
        Due.row("kinds", new long[] {x.kind(0, 0), x.kind(0, 6), x.kind(0, 1)}, 2, 5, 0);
        Due.row("itself", new long[] {x.add(0, 0), x.at(0, 5), x.at(0, 1000)}, 140014, 14, 140000);
        x.make(2, 0, 1, 1000);
        Due.row("of an empty one, an act too", new long[] {x.add(0, 2), x.count(4), x.add(2, 2), x.add(2, 0)}, 140014, 8, 0, 140014);
        x.make(3, 1, 1, 1000);
        Due.row("of another sort", new long[] {x.add(0, 3), x.add(3, 0), x.add(3, 3), x.total(0)}, -2, -2, 0, 140014);
        // a level becomes the row that holds it, then the one that holds the sum
        x.make(2, 0, 1, 1000);
        x.record(2, 15, 90, 1);
        x.record(2, 0, 90, 0);
        x.shelve(2);
        x.make(1, 0, 1, 1000);
        x.record(1, 2, 30, 0);
        Due.row("to a level", new long[] {x.kind(2, 0), x.add(2, 1), x.kind(2, 0)}, 9, 16 * 90 + 30, 2);
        x.shelve(2);
        x.record(1, 2, 30, 0);
        Due.row("to a text", new long[] {x.kind(2, 0), x.add(2, 1), x.at(2, 2), x.kind(2, 0)}, 10, 16 * 90 + 90, 180, 3);
    }

    private static void otherDigits() {
        TailRecorder x = new TailRecorder();
        x.make(0, 0, 1, 1000);
        x.make(1, 0, 2, 2000);
        for (int v = 32; v < 36; v++) x.record(1, v, v, 0);
        x.record(1, 999, 7, 0);
        Due.row("of finer slots", new long[] {x.add(0, 1), x.at(0, 32), x.at(0, 34), x.at(0, 1000), x.setting(0, 4)}, 141, 65, 69, 7, 3);
        Due.row("back, of wider slots, each by its low", new long[] {x.add(1, 0), x.at(1, 32), x.at(1, 33), x.at(1, 34), x.at(1, 35), x.at(1, 992), x.at(1, 999)},
            282, 32 + 65, 33, 34 + 69, 35, 7, 7);
        x.make(2, 0, 1, 1000);
        x.record(2, 32, 64, 0);
        x.record(2, 34, 100, 0);
        x.make(1, 0, 2, 1000);
        x.record(1, 32, 32, 0);
        x.record(1, 33, 33, 0);
        int acts = x.count(4);
        Due.row("together too many to be taken off", new long[] {x.takeOff(2, 1), x.at(2, 32), x.total(2), x.count(4)}, -2, 64, 164, acts);
        x.record(2, 33, 1, 0);
        Due.row("just as many", new long[] {x.takeOff(2, 1), x.at(2, 32), x.total(2)}, 100, 0, 100);
    }

    private static void lowThatIsNotThere() {
        TailRecorder x = new TailRecorder();
        x.make(0, 0, 1, 1000);
        x.make(1, 0, 1, 1000000);
        x.record(1, 1023, 3, 0);
        Due.row("of a wider one, while the low is there", new long[] {x.add(0, 1), x.at(0, 1000)}, 3, 3);
        x.record(1, 1024, 1, 0);
        int acts = x.count(4);
        Due.row("a low beyond", new long[] {x.add(0, 1), x.takeOff(0, 1), x.total(0), x.count(4), x.add(1, 0)}, -2, -2, 3, acts, 7);
        // 1004 is above the highest value, if it would come to the last slot
        x.make(2, 0, 2, 2000);
        x.record(2, 1003, 1, 0);
        Due.row("low 1000", new long[] {x.add(0, 2), x.at(0, 1000)}, 4, 4);
        x.record(2, 1004, 1, 0);
        Due.row("low 1004", new long[] {x.add(0, 2), x.takeOff(0, 2), x.total(0)}, -2, -2, 4);
        x.make(3, 0, 1, 1000);
        x.make(2, 0, 2, TOP);
        Due.row("an empty one of many slots", new long[] {x.add(3, 2), x.takeOff(3, 2)}, 0, 0);
    }

    private static void tooManyUnits() {
        TailRecorder x = new TailRecorder();
        x.make(0, 0, 1, 1000);
        x.record(0, 5, TOP, 0);
        for (int k = 0; k < 9; k++) x.add(0, 0);
        int acts = x.count(4);
        Due.row("more than a slot may have", new long[] {x.add(0, 0), x.at(0, 5), x.count(4)}, -2, 512 * TOP, acts);
        x.make(1, 0, 1, 1000);
        x.add(1, 0);
        for (int bit = 8; bit >= 0; bit--) {
            x.halve(1);
            if ((488 >> bit & 1) == 1) x.add(0, 1);
        }
        Due.due("512 + 488 times", x.at(0, 5), 1000 * TOP);
        x.make(2, 0, 1, 1000);
        x.record(2, 3, 9, 0);
        x.record(2, 5, 1, 0);
        Due.row("the one unit too many of a later slot", new long[] {x.add(0, 2), x.at(0, 3), x.at(0, 5)}, -2, 0, MOST);
        // eight slots of two digits come to one of one: each may have as much, together they may not
        x.make(3, 0, 2, 1000);
        x.record(3, 241, MOST / 1000, 0);
        x.record(3, 243, MOST / 1000, 0);
        for (int k = 0; k < 9; k++) x.add(3, 3);
        x.make(2, 0, 1, 1000);
        Due.row("together", new long[] {x.at(3, 241), x.at(3, 243), x.add(2, 3), x.total(2), x.halve(3), x.add(2, 3)},
            512 * TOP, 512 * TOP, -2, 0, 512 * TOP, 512 * TOP);
    }

    private static void takingOff() {
        TailRecorder x = new TailRecorder();
        x.make(0, 1, 1, 1000);
        x.make(1, 1, 1, 2000);
        x.record(0, 5, 300, 0);
        x.record(0, 40, 2000000, 0);
        x.record(1, 5, 300, 0);
        x.record(1, 41, 1999999, 0);
        Due.row("take off", new long[] {x.takeOff(0, 1), x.at(0, 5), x.at(0, 40), x.kind(0, 0), x.kind(0, 2), x.total(1)}, 1, 0, 1, 7, 8, 2000299);
        int acts = x.count(4);
        Due.row("not so much", new long[] {x.takeOff(0, 1), x.total(0), x.count(4)}, -2, 1, acts);
        x.make(2, 1, 1, 1000);
        x.record(2, 40, 1, 0);
        x.record(2, 50, 1, 0);
        Due.row("the first has, the second has not", new long[] {x.takeOff(0, 2), x.at(0, 40)}, -2, 1);
        Due.row("itself", new long[] {x.takeOff(1, 1), x.total(1), x.setting(1, 4), x.takeOff(1, 1), x.kind(1, 0)}, 0, 0, 0, 0, 7);
        x.make(3, 0, 1, 1000);
        Due.row("of another sort", new long[] {x.takeOff(0, 3), x.takeOff(3, 0), x.takeOff(3, 3)}, -2, -2, 0);
    }

    private static void halving() {
        TailRecorder x = new TailRecorder();
        x.make(0, 0, 2, 1000);
        for (int v = 0; v < 16; v++) x.record(0, v, 9, 0);
        x.record(0, 16, 8, 0);
        x.record(0, 20, 1, 0);
        x.record(0, 40, 70000, 0);
        x.record(0, 1000, 3, 0);
        x.poke(0, 0, 31, 12, 2, 9);
        x.shelve(0);
        x.example(0, 20, false, 1);
        Due.row("kinds", new long[] {x.kind(0, 0), x.kind(0, 1), x.kind(0, 2), x.kind(0, 3), x.kind(0, 31)}, 9, 10, 5, 0, 10);
        Due.row("halve", new long[] {x.halve(0), x.at(0, 0), x.at(0, 15), x.at(0, 16), x.at(0, 20), x.at(0, 40), x.at(0, 1000)},
            16 * 4 + 4 + 35001, 4, 4, 4, 0, 35000, 1);
        Due.row("kinds, places behind the last slot", new long[] {x.kind(0, 0), x.kind(0, 1), x.kind(0, 2), x.kind(0, 3), x.kind(0, 31), x.peek(0, 0, 31, 12, 0)},
            2, 2, 5, 0, 2, 9);
        Due.row("to nothing, examples stay", new long[] {x.halve(0), x.halve(0), x.halve(0), x.examples(0), x.kind(0, 0)}, 16 * 2 + 2 + 17500, 16 + 1 + 8750, 4375, 1, 2);
        x.make(1, 1, 1, 1000);
        Due.row("of an empty one, an act too", new long[] {x.halve(1), x.count(4), x.undo()}, 0, 8, 7);
    }

    private static void withoutThese() {
        TailRecorder x = new TailRecorder();
        x.make(0, 0, 1, 1000);
        x.record(0, 1, 2, 0);
        Due.row("without these", new long[] {
            x.add(0, 1), x.add(1, 0), x.add(0, -1), x.add(-1, 0), x.add(0, 4), x.add(4, 0), x.takeOff(0, 1), x.takeOff(1, 0), x.takeOff(0, -1),
            x.takeOff(4, 0), x.halve(1), x.halve(-1), x.halve(4), x.total(0), x.count(4)},
            -1, -1, -1, -1, -1, -1, -1, -1, -1, -1, -1, -1, -1, 2, 2);
    }
}
