import java.util.Random;

/** Runs of calls, drawn by fixed seeds, answered by TailRecorder and by Model, which says the document again. */
public final class ModelTest {
    private static final int RUNS = 4000;
    /** An object is used for 512 calls at most; one step makes fewer than 80. */
    private static final int CALLS = 512 - 80;
    private static int wrong = 0;

    private final Random random;
    private final TailRecorder x = new TailRecorder();
    private final Model m = new Model();
    private final long seed;
    private final boolean bigNumbers;
    private final boolean fewActs;
    private int calls = 0;

    private ModelTest(long seed) {
        this.seed = seed;
        random = new Random(seed);
        bigNumbers = random.nextInt(3) == 0;
        fewActs = random.nextInt(3) == 0;
    }

    public static void main(String[] args) {
        for (int k = 0; k < RUNS && wrong == 0; k++) {
            new ModelTest(k).run();
        }
        System.out.println(wrong == 0 ? "all answers are as the model's" : "not as the model's");
        if (wrong != 0) System.exit(1);
    }

    private void due(String call, long got, long want) {
        calls++;
        if (got == want) return;
        wrong++;
        if (wrong < 20) System.out.println("seed " + seed + ": " + call + " answered " + got + ", the model " + want);
    }

    private void run() {
        for (int k = 0; calls < CALLS && wrong == 0; k++) {
            if (k < 4 && random.nextInt(4) != 0) made(k % 4); else call();
            if (random.nextInt(12) == 0) look();
        }
    }

    private int pick(int... of) { return of[random.nextInt(of.length)]; }
    private boolean rarely() { return random.nextInt(25) == 0; }
    private int recorder() { return rarely() ? pick(-1, 4, Integer.MAX_VALUE, Integer.MIN_VALUE) : pick(0, 0, 0, 1, 1, 1, 2, 3); }
    private int writer() { return rarely() ? pick(-1, 4, Integer.MIN_VALUE) : random.nextInt(4); }

    private long highest() {
        if (rarely()) return new long[] {999, 0, -1, 1000000000001L, Long.MAX_VALUE, Long.MIN_VALUE}[random.nextInt(6)];
        return new long[] {1000, 1000, 1001, 1023, 1024, 2000, 3000, 100000, 1000000, 1000000000000L}[random.nextInt(10)];
    }

    private long value(int recorder) {
        long top = m.setting(recorder, 2);
        if (top < 0) top = 1000;
        switch (random.nextInt(12)) {
            case 0: return top;
            case 1: return rarely() ? top + 1 : top - random.nextInt(40);
            case 2: return rarely() ? -1 : 0;
            case 3: case 4: return random.nextInt(20);
            case 5: return Math.min(top, random.nextInt(300));
            case 6: return Math.floorMod(random.nextLong(), top + 1);
            case 7: return rarely() ? pick(-5, Integer.MIN_VALUE) : (1L << random.nextInt(63 - Long.numberOfLeadingZeros(top))) - random.nextInt(2);
            default: return random.nextInt(60);
        }
    }

    private long units() {
        if (rarely()) return new long[] {0, -1, 1000000000001L, Long.MAX_VALUE, Long.MIN_VALUE}[random.nextInt(5)];
        if (bigNumbers && random.nextInt(2) == 0) return random.nextInt(3) == 0 ? 1000000000000L : 1 + Math.floorMod(random.nextLong(), 1000000000000L);
        switch (random.nextInt(10)) {
            case 0: return pick(127, 128, 126, 255, 256);
            case 1: return pick(32767, 32768, 65535, 65536, 32766);
            case 2: return pick(Integer.MAX_VALUE, 1048576, 1048577, 1048575, 16777217);
            case 3: return 1 + random.nextInt(100000);
            case 4: return 2147483648L + random.nextInt(9);
            default: return 1 + random.nextInt(4);
        }
    }

    private long interval(long v) {
        switch (random.nextInt(8)) {
            case 0: return rarely() ? -1 : 1;
            case 1: return 1 + random.nextInt(50);
            case 2: return Math.max(1, v / (1 + random.nextInt(5)));
            case 3: return Math.max(1, v / pick(1000, 1001, 1002, 1003));
            case 4: return rarely() ? Long.MAX_VALUE : rarely() ? Long.MIN_VALUE : v;
            default: return 0;
        }
    }

    private int page(int recorder) {
        int pages = m.kind(recorder, -1);
        return rarely() ? pick(-2, -1, pages, pages + 1, Integer.MAX_VALUE) : pick(0, 0, 0, 1, 2, 3, pages - 1, pages - 1, Math.max(0, pages / 2));
    }

    private int place() { return rarely() ? pick(-1, 16, Integer.MIN_VALUE, Integer.MAX_VALUE) : random.nextInt(16); }
    private int mark() { return rarely() ? pick(-1, 101, Integer.MIN_VALUE) : pick(0, 1, 2, 100, random.nextInt(101)); }

    private void made(int recorder) {
        int sort = rarely() ? pick(-1, 2) : pick(0, 0, 0, 1);
        int digits = rarely() ? pick(0, 3, -1) : pick(1, 2);
        long highest = highest();
        due("make(" + recorder + ", " + sort + ", " + digits + ", " + highest + ")", x.make(recorder, sort, digits, highest), m.make(recorder, sort, digits, highest));
    }

    private void call() {
        if (fewActs && random.nextInt(6) == 0) { look(); return; }
        int r = recorder();
        switch (random.nextInt(28)) {
            case 0: if (random.nextInt(6) == 0) made(r); else recorded(r); break;
            case 1: case 2: case 3: case 4: case 5: recorded(r); break;
            case 6: { int b = recorder(); due("add(" + r + ", " + b + ")", x.add(r, b), m.merge(r, b, 1)); break; }
            case 7: { int b = recorder(); due("takeOff(" + r + ", " + b + ")", x.takeOff(r, b), m.merge(r, b, -1)); break; }
            case 8: due("halve(" + r + ")", x.halve(r), m.halve(r)); break;
            case 9: case 10: due("shelve(" + r + ")", x.shelve(r), m.shelve(r)); break;
            case 11: case 12: case 13: case 14: poked(r); break;
            case 15: case 16: {
                long v = value(r); boolean named = random.nextInt(3) == 0; int w = mark();
                due("example(" + r + ", " + v + ", " + named + ", " + w + ")", x.example(r, v, named, w), m.example(r, v, named, w)); break;
            }
            case 17: due("pack(" + r + ")", x.pack(r), m.pack(r)); break;
            case 18: unpacked(r); break;
            case 19: { int w = writer(); due("begin(" + w + ")", x.begin(w), m.begin(w)); break; }
            case 20: case 21: case 22: {
                int w = writer(); long v = value(0), n = units(), i = interval(v);
                due("write(" + w + ", " + v + ", " + n + ", " + i + ")", x.write(w, v, n, i), m.write(w, v, n, i)); break;
            }
            case 23: { int w = writer(); due("stop(" + w + ")", x.stop(w), m.stop(w)); break; }
            case 24: due("swap()", x.swap(), m.swap()); break;
            case 25: case 26: for (int k = random.nextInt(10) == 0 ? 10 : 1; k > 0; k--) due("undo()", x.undo(), m.undo()); break;
            default: fed(); break;
        }
    }

    private void recorded(int r) {
        long v = value(r), n = units(), i = interval(v);
        due("record(" + r + ", " + v + ", " + n + ", " + i + ")", x.record(r, v, n, i), m.record(r, v, n, i));
    }

    private void poked(int r) {
        int what = rarely() ? pick(-1, 2) : pick(0, 0, 1), page = page(r), place = place();
        int how = random.nextInt(24) - 1, w = mark();
        due("poke(" + r + ", " + what + ", " + page + ", " + place + ", " + how + ", " + w + ")",
            x.poke(r, what, page, place, how, w), m.poke(r, what, page, place, how, w));
    }

    private void fed() {
        if (random.nextInt(3) == 0) {
            int n = random.nextInt(Math.max(1, m.tape.length)) - (rarely() ? 1 : 0) + (rarely() ? 400 : 0);
            due("end(" + n + ")", x.end(n), m.end(n));
            return;
        }
        int a = random.nextInt(), b = random.nextInt();
        due("feed(..)", x.feed(a, b, a ^ b, -a, 0), m.feed(a, b, a ^ b, -a, 0));
    }

    /** Bytes of a packed recorder, spoilt now and then, so that most faults come about. */
    private void unpacked(int r) {
        if (random.nextInt(4) != 0) {
            byte[] bytes = random.nextInt(2) == 0 ? packed() : written();
            for (int k = random.nextInt(3); k > 0 && bytes.length > 0; k--) {
                bytes[random.nextInt(random.nextInt(2) == 0 ? bytes.length : Math.min(6, bytes.length))] = (byte) pick(0, 1, 2, 3, 127, 128, 129, 255, 165, random.nextInt(256));
            }
            refill(java.util.Arrays.copyOf(bytes, random.nextInt(3) == 0 ? random.nextInt(bytes.length + 1) : bytes.length));
        }
        due("unpack(" + r + ") of " + java.util.Arrays.toString(m.tape), x.unpack(r), m.unpack(r));
    }

    private byte[] packed() {
        m.pack(pick(0, 1, 2, 3));
        return m.tape;
    }

    private byte[] written() {
        java.io.ByteArrayOutputStream out = new java.io.ByteArrayOutputStream();
        out.write(165); out.write(random.nextInt(2)); out.write(1 + random.nextInt(2));
        number(out, random.nextInt(8) == 0 ? random.nextInt(2000) : highest());
        for (int k = random.nextInt(30); k > 0; k--) {
            int z = random.nextInt(4);
            number(out, z == 0 ? 2L * random.nextInt(random.nextInt(4) == 0 ? 1000 : 20) + 1
                : rarely() ? new long[] {0, 2000000000000000L, 2000000000000002L, Long.MAX_VALUE, Long.MAX_VALUE - 1}[random.nextInt(5)]
                : 2 + 2L * random.nextInt(pick(2, 3, 70000)));
        }
        byte[] all = out.toByteArray();
        return all.length > 400 ? java.util.Arrays.copyOf(all, 400) : all;
    }

    private void number(java.io.ByteArrayOutputStream out, long n) {
        long rest = n & Long.MAX_VALUE;
        for (int k = 0; k < 8 && (rest > 127 || rarely()); k++) { out.write((int) (rest & 127) | 128); rest >>= 7; }
        out.write((int) (rest & 127) | (rarely() && rarely() ? 128 : 0));
    }

    private void refill(byte[] bytes) {
        m.tape = new byte[0];
        due("end(0)", x.end(0), 0);
        byte[] whole = java.util.Arrays.copyOf(bytes, (bytes.length + 19) / 20 * 20);
        java.nio.ByteBuffer b = java.nio.ByteBuffer.wrap(whole);
        while (b.remaining() > 0) {
            int p = b.getInt(), q = b.getInt(), r = b.getInt(), s = b.getInt(), t = b.getInt();
            due("feed(..)", x.feed(p, q, r, s, t), m.feed(p, q, r, s, t));
        }
        due("end(" + bytes.length + ")", x.end(bytes.length), m.end(bytes.length));
    }

    private void look() {
        int r = recorder(), b = recorder(), what = random.nextInt(7) - 1, k = random.nextInt(402) - 1;
        long v = value(r);
        int rank = rarely() ? pick(-1, 100001) : pick(0, 1, 50000, 99999, 100000, random.nextInt(100001));
        int page = page(r), place = place(), how = random.nextInt(11) - 1, of = rarely() ? pick(-1, 2) : pick(0, 0, 1);
        String at = " of " + r + ", " + v;
        due("octet(" + k + ")", x.octet(k), m.octet(k));
        due("at" + at, x.at(r, v), m.at(r, v));
        due("below" + at, x.below(r, v), m.below(r, v));
        due("total" + at, x.total(r), m.total(r));
        due("rank(" + r + ", " + rank + ")", x.rank(r, rank), m.rank(r, rank));
        due("about(" + r + ", " + (what - 1) + ")", x.about(r, what - 1), m.about(r, what - 1));
        for (int p = -2; p < 6; p++) due("kind(" + r + ", " + p + ")", x.kind(r, p), m.kind(r, p));
        due("kind(" + r + ", " + page + ")", x.kind(r, page), m.kind(r, page));
        due("room" + at, x.room(r), m.room(r));
        due("peek(" + r + ", " + of + ", " + page + ", " + place + ", " + how + ")", x.peek(r, of, page, place, how), m.peek(r, of, page, place, how));
        due("examples" + at, x.examples(r), m.examples(r));
        due("read()", x.read(), m.read());
        due("same(" + r + ", " + b + ")", x.same(r, b), m.same(r, b));
        for (int c = -1; c < 7; c++) due("count(" + c + ")", x.count(c), m.count(c));
        due("setting(" + r + ", " + what + ")", x.setting(r, what), m.setting(r, what));
        int digits = random.nextInt(4);
        long any = rarely() ? v : random.nextLong() >> random.nextInt(64);
        due("slot(" + digits + ", " + any + ")", x.slot(digits, any), m.slot(digits, any));
        due("edge(" + digits + ", " + any + ", " + what + ")", x.edge(digits, any, what), m.edge(digits, any, what));
    }
}
