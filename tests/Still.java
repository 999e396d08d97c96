import java.util.ArrayList;
import java.util.List;
import java.util.function.Supplier;
import java.util.function.ToLongFunction;

/**
 * "Nothing happens": two objects come the same way, one of them is asked what is refused, and then both must answer
 * alike: when they are looked at, written on, swapped, unpacked and undone. Each look is at two new objects, so that
 * no object is used for more than 512 calls.
 */
final class Still {
    private static final int DEEPEST = 9;

    private Still() { }

    /** What later calls answer; each adds its answers to the row. */
    private interface Look { void at(TailRecorder x, List<Long> row); }

    static void refused(String call, Supplier<TailRecorder> way, ToLongFunction<TailRecorder> refused, long due) {
        look(call, way, refused, due, "state", Still::state);
        look(call, way, refused, due, "tape", Still::tape);
        look(call, way, refused, due, "writers", Still::written);
        look(call, way, refused, due, "what is done then", Still::doneThen);
        for (int r = 0; r < 4; r++) {
            int recorder = r;
            look(call, way, refused, due, "units of " + r, (x, row) -> units(x, recorder, row));
            look(call, way, refused, due, "places of " + r, (x, row) -> places(x, recorder, 0, row));
            look(call, way, refused, due, "examples of " + r, (x, row) -> places(x, recorder, 1, row));
        }
        for (int depth = 1; depth <= DEEPEST; depth++) {
            int undos = depth;
            look(call, way, refused, due, undos + " undone", (x, row) -> undone(x, undos, row));
        }
    }

    private static void look(String call, Supplier<TailRecorder> way, ToLongFunction<TailRecorder> refused, long due, String what, Look look) {
        TailRecorder asked = way.get();
        TailRecorder other = way.get();
        Due.due(call, refused.applyAsLong(asked), due);
        Due.row(call + ", then " + what, seen(asked, look), seen(other, look));
    }

    private static long[] seen(TailRecorder x, Look look) {
        ArrayList<Long> row = new ArrayList<>();
        look.at(x, row);
        return row.stream().mapToLong(k -> k).toArray();
    }

    private static void add(List<Long> row, long... answers) {
        for (long answer : answers) row.add(answer);
    }

    private static void state(TailRecorder x, List<Long> row) {
        add(row, Due.counts(x));
        add(row, x.read());
        for (int r = 0; r < 4; r++) {
            add(row, x.setting(r, 0), x.setting(r, 1), x.setting(r, 2), x.setting(r, 4), x.total(r), x.room(r), x.examples(r), x.about(r, 0), x.about(r, 1), x.about(r, 2));
            for (int page = 0; page < 9; page++) add(row, x.kind(r, page));
            add(row, x.kind(r, x.kind(r, -1) - 1));
            for (int v = 0; v < 12; v++) add(row, x.at(r, v));
        }
    }

    private static void tape(TailRecorder x, List<Long> row) {
        add(row, Due.tape(x));
    }

    /** Slots 0 to 111 of one digit. */
    private static void units(TailRecorder x, int r, List<Long> row) {
        for (int s = 0; s < 112; s++) add(row, x.at(r, Model.low(1, s)));
        for (int rank = 0; rank <= 100000; rank += 5000) add(row, x.rank(r, rank));
        for (int v = 0; v <= 1000; v += 40) add(row, x.below(r, v));
    }

    private static void places(TailRecorder x, int r, int what, List<Long> row) {
        int last = x.kind(r, -1) - 1;
        for (int page = 0; page < 7; page++) {
            for (int place = 0; place < 16; place++) add(row, x.peek(r, what, page, place, 0));
        }
        for (int place = 0; place < 16; place++) add(row, x.peek(r, what, last, place, 0));
    }

    private static void written(TailRecorder x, List<Long> row) {
        for (int w = 0; w < 4; w++) add(row, x.write(w, 6, 1, 2), x.total(0), x.total(1));
        for (int w = 0; w < 4; w++) add(row, x.stop(w), x.read());
        state(x, row);
    }

    private static void doneThen(TailRecorder x, List<Long> row) {
        for (int r = 0; r < 4; r++) add(row, x.record(r, 10, 100, 1), x.example(r, 12, true, 3), x.poke(r, 0, 0, 2, 2, 7), x.shelve(r));
        add(row, x.begin(0), x.swap(), x.begin(3), x.read(), x.unpack(3), x.add(0, 1), x.takeOff(0, 1), x.halve(0), x.same(0, 1), x.pack(0));
        state(x, row);
        tape(x, row);
    }

    private static void undone(TailRecorder x, int undos, List<Long> row) {
        for (int k = 0; k < undos; k++) add(row, x.undo());
        state(x, row);
    }
}
