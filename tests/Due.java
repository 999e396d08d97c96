/** Counts and prints the answers that are not due; a test ends with finish(). */
final class Due {
    private static int wrong = 0;

    private Due() { }

    static void due(String call, long got, long want) {
        if (got == want) return;
        wrong++;
        System.out.println(call + " answered " + got + ", due is " + want);
    }

    /** A row of answers at once. */
    static void row(String call, long[] got, long... want) {
        int at = java.util.Arrays.mismatch(got, want);
        if (at < 0) return;
        wrong++;
        System.out.println(call + ", from number " + at + " on, answered " + from(got, at) + ", due is " + from(want, at));
    }

    private static String from(long[] row, int at) {
        return java.util.Arrays.toString(java.util.Arrays.copyOfRange(row, at, Math.min(row.length, at + 20)));
    }

    /** Puts bytes on an empty tape, by feed and end. */
    static void fill(TailRecorder x, int... bytes) {
        x.end(0);
        int[] whole = java.util.Arrays.copyOf(bytes, (bytes.length + 19) / 20 * 20);
        for (int k = 0; k < whole.length; k += 20) {
            x.feed(word(whole, k), word(whole, k + 4), word(whole, k + 8), word(whole, k + 12), word(whole, k + 16));
        }
        due("end(" + bytes.length + ")", x.end(bytes.length), bytes.length);
    }

    private static int word(int[] b, int k) {
        return b[k] << 24 | b[k + 1] << 16 | b[k + 2] << 8 | b[k + 3];
    }

    /** The tape, as octet() tells it. */
    static long[] tape(TailRecorder x) {
        long[] bytes = new long[x.count(5)];
        for (int k = 0; k < bytes.length; k++) bytes[k] = x.octet(k);
        return bytes;
    }

    /** count(0) to count(5). */
    static long[] counts(TailRecorder x) {
        return new long[] {x.count(0), x.count(1), x.count(2), x.count(3), x.count(4), x.count(5)};
    }

    static void finish() {
        System.out.println(wrong == 0 ? "all answers are as due" : wrong + " answers are not as due");
        if (wrong != 0) System.exit(1);
    }
}
