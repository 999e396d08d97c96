/** Counts and prints the answers that are not due; a test ends with finish(). */
final class Due {
    private static int wrong = 0;
    private static String words = "";

    private Due() { }

    /** The sentence of the document by which the answers that follow are due. */
    static void sentence(String of) {
        words = of + ": ";
    }

    static void due(String call, long got, long want) {
        if (got == want) return;
        wrong++;
        System.out.println(words + call + " answered " + got + ", due is " + want);
    }

    /** A row of answers at once. */
    static void row(String call, long[] got, long... want) {
        int at = java.util.Arrays.mismatch(got, want);
        if (at < 0) return;
        wrong++;
        System.out.println(words + call + ", from number " + at + " on, answered " + from(got, at) + ", due is " + from(want, at));
    }

    /** A row of answers, all of them the same. */
    static void all(String call, long want, long... got) {
        long[] due = new long[got.length];
        java.util.Arrays.fill(due, want);
        row(call, got, due);
    }

    private static String from(long[] row, int at) {
        return java.util.Arrays.toString(java.util.Arrays.copyOfRange(row, at, Math.min(row.length, at + 20)));
    }

    /** Puts bytes on an empty tape, by feed and end. */
    static void fill(TailRecorder x, int... bytes) {
        x.end(0);
        int[] whole = java.util.Arrays.copyOf(bytes, (bytes.length + 19) / 20 * 20);
        for (int k = 0; k < whole.length; k += 20) {
            x.feed(word(whole, k), word(whole, k + 4), word(whole, k + 8), word(whole, k + 12), word(whole, k + 16));
        }
        due("end(" + bytes.length + ")", x.end(bytes.length), bytes.length);
    }

    private static int word(int[] b, int k) {
        return b[k] << 24 | b[k + 1] << 16 | b[k + 2] << 8 | b[k + 3];
    }

    /** The bytes of a recorder whose slots from 0 on have these units (the last one is not 0). */
    static int[] packed(int sort, int digits, long highest, long... units) {
        java.util.ArrayList<Integer> bytes = new java.util.ArrayList<>(java.util.List.of(165, sort, digits));
        number(bytes, highest);
        int zeros = 0;
        for (long here : units) {
            if (here == 0) {
                zeros++;
            } else {
                if (zeros > 0) number(bytes, 2L * zeros - 1);
                number(bytes, 2 * here);
                zeros = 0;
            }
        }
        return bytes.stream().mapToInt(k -> k).toArray();
    }

    private static void number(java.util.ArrayList<Integer> bytes, long x) {
        long rest = x;
        for (; rest > 127; rest /= 128) bytes.add((int) (rest % 128) + 128);
        bytes.add((int) rest);
    }

    /** The tape, as octet() tells it. */
    static long[] tape(TailRecorder x) {
        long[] bytes = new long[x.count(5)];
        for (int k = 0; k < bytes.length; k++) bytes[k] = x.octet(k);
        return bytes;
    }

    /** count(0) to count(5). */
    static long[] counts(TailRecorder x) {
        return new long[] {x.count(0), x.count(1), x.count(2), x.count(3), x.count(4), x.count(5)};
    }

    static void finish() {
        System.out.println(wrong == 0 ? "all answers are as due" : wrong + " answers are not as due");
        if (wrong != 0) System.exit(1);
    }
}
