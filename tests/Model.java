import java.lang.reflect.Array;
import java.math.BigInteger;
import java.util.ArrayDeque;
import java.util.Arrays;
import java.util.TreeMap;

/**
 * The document once more, in another manner: pages are real rows (boolean[], .., String), peek and poke are
 * java.lang.reflect.Array, sums are BigIntegers, awaited values are recorded one by one, undo keeps whole copies.
 */
final class Model {
    static final long MOST = 1000000000000000L;

    static final class Mark { final boolean named; final int w; Mark(boolean named, int w) { this.named = named; this.w = w; } }

    static final class Recorder {
        int sort, digits, slots;
        long highest;
        Object[] pages;
        Mark[][] rows;
        Boolean[] named;

        Recorder(int sort, int digits, long highest) {
            this.sort = sort; this.digits = digits; this.highest = highest;
            slots = slotOf(digits, highest) + 1;
            int n = (slots + 15) / 16;
            pages = new Object[n]; rows = new Mark[n][]; named = new Boolean[n];
        }

        Recorder copy() {
            Recorder r = new Recorder(sort, digits, highest);
            for (int p = 0; p < pages.length; p++) {
                r.pages[p] = copyOfRow(pages[p]);
                r.rows[p] = rows[p] == null ? null : rows[p].clone();
                r.named[p] = named[p];
            }
            return r;
        }

        long units(int place) {
            Object page = pages[place / 16];
            if (page == null) return 0;
            if (page instanceof Long) return (Long) page;
            if (page instanceof String) return ((String) page).charAt(place % 16);
            Object x = Array.get(page, place % 16);
            if (x instanceof Boolean) return (Boolean) x ? 1 : 0;
            if (x instanceof Character) return (Character) x;
            if (x instanceof Float || x instanceof Double) return (long) (((Number) x).doubleValue() * 16);
            return ((Number) x).longValue();
        }

        long[] pageUnits(int p) {
            long[] all = new long[16];
            for (int k = 0; k < 16; k++) all[k] = units(16 * p + k);
            return all;
        }

        void write(int place, long now) {
            if (units(place) == now) return;
            int p = place / 16;
            long[] all = pageUnits(p);
            Object page = pages[p];
            int kind = kindOf(page, sort);
            if (kind == 0) kind = sort == 0 ? 1 : 7;
            else if (kind > 8) kind = firstKind(sort == 0 ? 1 : 7, all);
            all[place % 16] = now;
            kind = firstKind(kind, all);
            pages[p] = row(kind, all);
        }

        int shelve() {
            int changed = 0;
            for (int p = 0; p < pages.length; p++) {
                long[] all = pageUnits(p);
                int before = kindOf(pages[p], sort);
                long most = Arrays.stream(all).max().getAsLong();
                boolean alike = Arrays.stream(all).distinct().count() == 1;
                if (most == 0) pages[p] = null;
                else if (alike) pages[p] = Long.valueOf(most);
                else if (sort == 0 && most <= 65535) {
                    StringBuilder text = new StringBuilder();
                    for (long x : all) text.append((char) x);
                    pages[p] = text.toString();
                } else pages[p] = row(firstKind(sort == 0 ? 1 : 7, all), all);
                if (kindOf(pages[p], sort) != before) changed++;
            }
            return changed;
        }

        int last() {
            for (int s = slots - 1; s >= 0; s--) if (units(s) != 0) return s;
            return -1;
        }

        long total() {
            long sum = 0;
            for (int s = 0; s < slots; s++) sum += units(s);
            return sum;
        }
    }

    static Object copyOfRow(Object page) {
        if (page == null || !page.getClass().isArray()) return page;
        Object copy = Array.newInstance(page.getClass().getComponentType(), 16);
        System.arraycopy(page, 0, copy, 0, 16);
        return copy;
    }

    static boolean holds(int kind, long units) {
        switch (kind) {
            case 1: return units <= 1;
            case 2: return units <= Byte.MAX_VALUE;
            case 3: return units <= Short.MAX_VALUE;
            case 4: return units <= Character.MAX_VALUE;
            case 5: return units <= Integer.MAX_VALUE;
            case 7: return units <= 1048576;
            default: return true;
        }
    }

    static int firstKind(int from, long[] all) {
        int kind = from;
        for (long x : all) while (!holds(kind, x)) kind++;
        return kind;
    }

    static Object row(int kind, long[] all) {
        Class<?>[] types = {null, boolean.class, byte.class, short.class, char.class, int.class, long.class, float.class, double.class};
        Object row = Array.newInstance(types[kind], 16);
        for (int k = 0; k < 16; k++) {
            long x = all[k];
            switch (kind) {
                case 1: Array.setBoolean(row, k, x == 1); break;
                case 2: Array.setByte(row, k, (byte) x); break;
                case 3: Array.setShort(row, k, (short) x); break;
                case 4: Array.setChar(row, k, (char) x); break;
                case 5: Array.setInt(row, k, (int) x); break;
                case 6: Array.setLong(row, k, x); break;
                case 7: Array.setFloat(row, k, x / 16f); break;
                default: Array.setDouble(row, k, x / 16d); break;
            }
        }
        return row;
    }

    static int kindOf(Object page, int sort) {
        if (page == null) return 0;
        if (page instanceof Long) return 9;
        if (page instanceof String) return 10;
        if (page instanceof boolean[]) return 1;
        if (page instanceof byte[]) return 2;
        if (page instanceof short[]) return 3;
        if (page instanceof char[]) return 4;
        if (page instanceof int[]) return 5;
        if (page instanceof long[]) return 6;
        return page instanceof float[] ? 7 : 8;
    }

    static int slotOf(int digits, long v) {
        int bits = digits == 1 ? 5 : 8;
        int length = BigInteger.valueOf(v).bitLength();
        int shift = Math.max(0, length - bits);
        return shift * (1 << (bits - 1)) + (int) (v / (1L << shift));
    }

    /** The lowest value of a slot, found by looking for it. */
    static long low(int digits, int s) {
        long least = 0, most = Long.MAX_VALUE;
        while (least < most) {
            long mid = least + (most - least) / 2;
            if (slotOf(digits, mid) >= s) most = mid; else least = mid + 1;
        }
        return least;
    }

    static long high(int digits, int s) {
        return s == slotOf(digits, Long.MAX_VALUE) ? Long.MAX_VALUE : low(digits, s + 1) - 1;
    }

    static long middle(int digits, int s) {
        return BigInteger.valueOf(low(digits, s)).add(BigInteger.valueOf(high(digits, s))).shiftRight(1).longValue();
    }

    static final class State {
        Recorder[] recorders = new Recorder[4];
        int active = 0, rests = -1;
        int[] writers = {-1, -1, -1, -1};

        State copy() {
            State s = new State();
            for (int k = 0; k < 4; k++) s.recorders[k] = recorders[k] == null ? null : recorders[k].copy();
            s.active = active; s.rests = rests; s.writers = writers.clone();
            return s;
        }
    }

    State now = new State();
    ArrayDeque<State> past = new ArrayDeque<>();
    byte[] tape = new byte[0];

    void act() {
        past.addLast(now.copy());
        if (past.size() > 8) past.removeFirst();
    }

    Recorder get(int recorder) {
        return recorder < 0 || recorder > 3 ? null : now.recorders[recorder];
    }

    int feed(int a, int b, int c, int d, int e) {
        if (tape.length + 20 > 400) return -1;
        tape = Arrays.copyOf(tape, tape.length + 20);
        java.nio.ByteBuffer.wrap(tape, tape.length - 20, 20).putInt(a).putInt(b).putInt(c).putInt(d).putInt(e);
        return tape.length;
    }

    int end(int n) {
        if (n < 0 || n > tape.length) return -1;
        tape = Arrays.copyOf(tape, n);
        return n;
    }

    int octet(int k) { return k < 0 || k >= tape.length ? -1 : tape[k] & 255; }

    int make(int recorder, int sort, int digits, long highest) {
        if (recorder < 0 || recorder > 3 || sort < 0 || sort > 1 || digits < 1 || digits > 2 || highest < 1000 || highest > 1000000000000L) return -1;
        act();
        now.recorders[recorder] = new Recorder(sort, digits, highest);
        return now.recorders[recorder].slots;
    }

    int slot(int digits, long v) { return digits < 1 || digits > 2 || v < 0 ? -1 : slotOf(digits, v); }

    long edge(int digits, long v, int what) {
        if (digits < 1 || digits > 2 || v < 0 || what < 0 || what > 2) return -1;
        int s = slotOf(digits, v);
        return what == 0 ? low(digits, s) : what == 1 ? high(digits, s) : middle(digits, s);
    }

    long record(int recorder, long v, long n, long interval) {
        Recorder r = get(recorder);
        if (r == null || n < 1 || n > 1000000000000L || interval < 0) return -1;
        if (v < 0 || v > r.highest) return -2;
        TreeMap<Integer, Long> more = new TreeMap<>();
        more.merge(slotOf(r.digits, v), n, Long::sum);
        if (interval > 0) {
            int also = 0;
            for (long x = v - interval; x >= interval; x -= interval) {
                also++;
                if (also > 1000) return -2;
                more.merge(slotOf(r.digits, x), n, Long::sum);
            }
        }
        for (int s : more.keySet()) if (r.units(s) + more.get(s) > MOST) return -2;
        act();
        for (int s : more.keySet()) r.write(s, r.units(s) + more.get(s));
        return r.units(slotOf(r.digits, v));
    }

    long at(int recorder, long v) {
        Recorder r = get(recorder);
        return r == null || v < 0 || v > r.highest ? -1 : r.units(slotOf(r.digits, v));
    }

    long below(int recorder, long v) {
        Recorder r = get(recorder);
        if (r == null || v < 0 || v > r.highest) return -1;
        long sum = 0;
        for (int s = 0; s < slotOf(r.digits, v); s++) sum += r.units(s);
        return sum;
    }

    long total(int recorder) { Recorder r = get(recorder); return r == null ? -1 : r.total(); }

    long rank(int recorder, int rank) {
        Recorder r = get(recorder);
        if (r == null || rank < 0 || rank > 100000) return -1;
        long total = r.total();
        if (total == 0) return -2;
        BigInteger[] parts = BigInteger.valueOf(rank).multiply(BigInteger.valueOf(total)).divideAndRemainder(BigInteger.valueOf(100000));
        long wanted = parts[0].longValue() + (parts[1].signum() > 0 ? 1 : 0);
        if (wanted < 1) wanted = 1;
        long sum = 0;
        for (int s = 0; ; s++) {
            sum += r.units(s);
            if (sum >= wanted) return Math.min(r.highest, high(r.digits, s));
        }
    }

    long about(int recorder, int what) {
        Recorder r = get(recorder);
        if (r == null || what < 0 || what > 2) return -1;
        if (r.last() < 0) return -2;
        if (what == 1) return Math.min(r.highest, high(r.digits, r.last()));
        BigInteger sum = BigInteger.ZERO;
        for (int s = 0; s < r.slots; s++) {
            if (r.units(s) == 0) continue;
            if (what == 0) return low(r.digits, s);
            sum = sum.add(BigInteger.valueOf(r.units(s)).multiply(BigInteger.valueOf(middle(r.digits, s))));
        }
        return sum.divide(BigInteger.valueOf(r.total())).longValue();
    }

    long merge(int a, int b, int sign) {
        Recorder to = get(a), from = get(b);
        if (to == null || from == null) return -1;
        if (to.sort != from.sort) return -2;
        if (from.last() >= 0 && low(from.digits, from.last()) > to.highest) return -2;
        Recorder next = to.copy();
        for (int s = 0; s < from.slots; s++) {
            if (from.units(s) == 0) continue;
            int t = slotOf(to.digits, low(from.digits, s));
            long x = next.units(t) + sign * from.units(s);
            if (x < 0 || x > MOST) return -2;
            next.write(t, x);
        }
        act();
        now.recorders[a] = next;
        return next.total();
    }

    long halve(int recorder) {
        Recorder r = get(recorder);
        if (r == null) return -1;
        act();
        for (int s = 0; s < r.slots; s++) r.write(s, r.units(s) / 2);
        return r.total();
    }

    int shelve(int recorder) {
        Recorder r = get(recorder);
        if (r == null) return -1;
        act();
        return r.shelve();
    }

    int kind(int recorder, int page) {
        Recorder r = get(recorder);
        if (r == null || page < -1 || page >= r.pages.length) return -1;
        return page == -1 ? r.pages.length : kindOf(r.pages[page], r.sort);
    }

    int room(int recorder) {
        Recorder r = get(recorder);
        if (r == null) return -1;
        int sum = 0;
        for (Object page : r.pages) {
            if (page instanceof Long) sum += 8;
            else if (page instanceof String) sum += 32;
            else if (page != null) {
                Class<?> c = page.getClass().getComponentType();
                sum += 16 * (c == boolean.class || c == byte.class ? 1 : c == short.class || c == char.class ? 2 : c == int.class || c == float.class ? 4 : 8);
            }
        }
        return sum;
    }

    long peek(int recorder, int what, int page, int place, int how) {
        Recorder r = get(recorder);
        if (r == null || what < 0 || what > 1 || page < 0 || page >= r.pages.length || how < 0 || how > 8) return Long.MIN_VALUE;
        Object row = what == 0 ? r.pages[page] : r.rows[page];
        if (row == null) return -4;
        if (place < 0 || place > 15) return -2;
        try {
            switch (how) {
                case 1: return Array.getBoolean(row, place) ? 1 : 0;
                case 2: return Array.getByte(row, place);
                case 3: return Array.getShort(row, place);
                case 4: return Array.getChar(row, place);
                case 5: return Array.getInt(row, place);
                case 6: return Array.getLong(row, place);
                case 7: return Float.floatToIntBits(Array.getFloat(row, place));
                case 8: return Double.doubleToLongBits(Array.getDouble(row, place));
                default: break;
            }
            Object x = Array.get(row, place);
            if (x == null) return -1;
            if (x instanceof Mark) return ((Mark) x).w;
            if (x instanceof Float) return Float.floatToIntBits((Float) x);
            if (x instanceof Double) return Double.doubleToLongBits((Double) x);
            return r.units(16 * page + place);
        } catch (IllegalArgumentException e) {
            return -3;
        }
    }

    int poke(int recorder, int what, int page, int place, int how, int w) {
        Recorder r = get(recorder);
        if (r == null || what < 0 || what > 1 || page < 0 || page >= r.pages.length) return -1;
        if (how < 1 || how > 21 || how == 9 || how == 10 || w < 0 || w > 100) return -1;
        Object row = what == 0 ? r.pages[page] : r.rows[page];
        if (row == null) return -4;
        if (place < 0 || place > 15) return -2;
        State before = now.copy();
        try {
            switch (how) {
                case 1: Array.setBoolean(row, place, w > 0); break;
                case 2: Array.setByte(row, place, (byte) w); break;
                case 3: Array.setShort(row, place, (short) w); break;
                case 4: Array.setChar(row, place, (char) w); break;
                case 5: Array.setInt(row, place, w); break;
                case 6: Array.setLong(row, place, w); break;
                case 7: Array.setFloat(row, place, w); break;
                case 8: Array.setDouble(row, place, w); break;
                case 11: Array.set(row, place, w > 0); break;
                case 12: Array.set(row, place, (byte) w); break;
                case 13: Array.set(row, place, (short) w); break;
                case 14: Array.set(row, place, (char) w); break;
                case 15: Array.set(row, place, w); break;
                case 16: Array.set(row, place, (long) w); break;
                case 17: Array.set(row, place, (float) w); break;
                case 18: Array.set(row, place, (double) w); break;
                case 19:
                    if (what == 0) return -3;
                    Array.set(row, place, null);
                    break;
                default:
                    if (what == 1 && r.named[page] != (how == 21)) return -3;
                    Array.set(row, place, new Mark(how == 21, w));
                    break;
            }
        } catch (IllegalArgumentException e) {
            return -3;
        }
        past.addLast(before);
        if (past.size() > 8) past.removeFirst();
        return 0;
    }

    int example(int recorder, long v, boolean named, int w) {
        Recorder r = get(recorder);
        if (r == null || v < 0 || v > r.highest || w < 0 || w > 100) return -1;
        int s = slotOf(r.digits, v);
        int p = s / 16;
        if (r.rows[p] != null && r.named[p] != named) return -3;
        act();
        if (r.rows[p] == null) { r.rows[p] = new Mark[16]; r.named[p] = named; }
        r.rows[p][s % 16] = new Mark(named, w);
        return 0;
    }

    int examples(int recorder) {
        Recorder r = get(recorder);
        if (r == null) return -1;
        int n = 0;
        for (Mark[] row : r.rows) if (row != null) for (Mark m : row) if (m != null) n++;
        return n;
    }

    static void number(java.io.ByteArrayOutputStream out, long x) {
        while (x >= 128) { out.write((int) (x % 128) + 128); x /= 128; }
        out.write((int) x);
    }

    int pack(int recorder) {
        Recorder r = get(recorder);
        if (r == null) return -1;
        java.io.ByteArrayOutputStream out = new java.io.ByteArrayOutputStream();
        out.write(165); out.write(r.sort); out.write(r.digits); number(out, r.highest);
        for (int s = 0; s <= r.last(); s++) {
            int z = 0;
            while (r.units(s) == 0) { z++; s++; }
            if (z > 0) number(out, 2L * z - 1);
            number(out, 2 * r.units(s));
        }
        if (out.size() > 400) return -2;
        tape = out.toByteArray();
        return tape.length;
    }

    int place;
    static final class Fault extends Exception {
        private static final long serialVersionUID = 1L;
        final int n;
        Fault(int place, int code) { n = 8 * place + code; } }

    int byteOf() throws Fault {
        if (place == tape.length) throw new Fault(place, 1);
        return tape[place++] & 255;
    }

    BigInteger numberOf() throws Fault {
        int start = place;
        BigInteger x = BigInteger.ZERO;
        for (int k = 0; ; k++) {
            if (k == 9) throw new Fault(start, 2);
            int b = byteOf();
            x = x.add(BigInteger.valueOf(b % 128).shiftLeft(7 * k));
            if (b < 128) return x;
        }
    }

    Recorder parse() throws Fault {
        place = 0;
        if (byteOf() != 165) throw new Fault(0, 1);
        int sort = byteOf();
        if (sort > 1) throw new Fault(1, 1);
        int digits = byteOf();
        if (digits < 1 || digits > 2) throw new Fault(2, 1);
        BigInteger highest = numberOf();
        if (highest.compareTo(BigInteger.valueOf(1000)) < 0 || highest.compareTo(BigInteger.valueOf(1000000000000L)) > 0) throw new Fault(3, 2);
        Recorder r = new Recorder(sort, digits, highest.longValue());
        BigInteger s = BigInteger.ZERO;
        int zeros = -1;
        while (place < tape.length) {
            int start = place;
            BigInteger x = numberOf();
            boolean odd = x.testBit(0);
            BigInteger many = odd ? x.add(BigInteger.ONE).shiftRight(1) : BigInteger.ONE;
            if (!odd && x.shiftRight(1).compareTo(BigInteger.valueOf(MOST)) > 0) throw new Fault(start, 2);
            if (x.signum() == 0 || odd && zeros >= 0 || s.add(many).compareTo(BigInteger.valueOf(r.slots)) > 0) throw new Fault(start, 3);
            if (!odd) r.write(s.intValue(), x.shiftRight(1).longValue());
            zeros = odd ? start : -1;
            s = s.add(many);
        }
        if (zeros >= 0) throw new Fault(zeros, 4);
        r.shelve();
        return r;
    }

    int unpack(int recorder) {
        if (recorder < 0 || recorder > 3) return -1;
        try {
            Recorder r = parse();
            act();
            now.recorders[recorder] = r;
            return r.slots;
        } catch (Fault f) {
            return -2 - f.n;
        } finally {
            tape = new byte[0];
        }
    }

    int begin(int writer) {
        if (writer < 0 || writer > 3 || now.writers[writer] >= 0 || now.recorders[now.active] == null) return -1;
        act();
        now.writers[writer] = now.active;
        return now.active;
    }

    long write(int writer, long v, long n, long interval) {
        return writer < 0 || writer > 3 ? -1 : record(now.writers[writer], v, n, interval);
    }

    int stop(int writer) {
        if (writer < 0 || writer > 3 || now.writers[writer] < 0) return -1;
        act();
        now.writers[writer] = -1;
        return (int) Arrays.stream(now.writers).filter(x -> x >= 0).count();
    }

    boolean written(int recorder) { return Arrays.stream(now.writers).anyMatch(x -> x == recorder); }

    int swap() {
        if (now.recorders[0] == null || now.recorders[1] == null) return -1;
        int other = 1 - now.active;
        if (written(other)) return -2;
        act();
        Recorder r = now.recorders[other];
        now.recorders[other] = new Recorder(r.sort, r.digits, r.highest);
        now.rests = now.active;
        now.active = other;
        return other;
    }

    long read() { return now.rests < 0 ? -1 : written(now.rests) ? -2 : total(now.rests); }

    int undo() {
        if (past.isEmpty()) return -1;
        now = past.removeLast();
        return past.size();
    }

    int same(int a, int b) {
        Recorder x = get(a), y = get(b);
        if (x == null || y == null) return -1;
        if (x.sort != y.sort || x.digits != y.digits || x.highest != y.highest) return 0;
        for (int s = 0; s < x.slots; s++) if (x.units(s) != y.units(s)) return 0;
        return 1;
    }

    int count(int what) {
        int bits = 0;
        switch (what) {
            case 0: for (int k = 0; k < 4; k++) if (now.recorders[k] != null) bits |= 1 << k; return bits;
            case 1: return now.active;
            case 2: for (int k = 0; k < 4; k++) if (now.writers[k] >= 0) bits |= 1 << k; return bits;
            case 3: return now.rests;
            case 4: return past.size();
            case 5: return tape.length;
            default: return -1;
        }
    }

    long setting(int recorder, int what) {
        Recorder r = get(recorder);
        if (r == null || what < 0 || what > 4) return -1;
        if (what < 4) return what == 0 ? r.sort : what == 1 ? r.digits : what == 2 ? r.highest : r.slots;
        int n = 0;
        for (int s = 0; s < r.slots; s++) if (r.units(s) != 0) n++;
        return n;
    }
}
