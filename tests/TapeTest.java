/** Promises 2 feed, 3 end, 4 octet, 24 pack, 25 unpack. */
public final class TapeTest {
    private static final int M = 255, C = 128;

    public static void main(String[] args) {
        feedAndEnd();
        packed();
        packedTooLong();
        unpacked();
        faultsOfHead();
        faultsOfNumbers();
        faultsOfSlots();
        Due.finish();
    }

    private static void feedAndEnd() {
        TailRecorder x = new TailRecorder();
        Due.row("octets of none", new long[] {x.octet(0), x.octet(-1), x.octet(Integer.MIN_VALUE)}, -1, -1, -1);
        Due.due("feed", x.feed(0x01020304, -1, 0x80000000, 0x7f, 0xfe00), 20);
        Due.row("tape", Due.tape(x), 1, 2, 3, 4, 255, 255, 255, 255, 128, 0, 0, 0, 0, 0, 0, 127, 0, 0, 254, 0);
        Due.row("octets beyond", new long[] {x.octet(20), x.octet(Integer.MAX_VALUE), x.octet(-1)}, -1, -1, -1);
        Due.row("ends", new long[] {x.end(21), x.end(-1), x.end(20), x.end(3), x.end(4), x.end(Integer.MAX_VALUE)}, -1, -1, 20, 3, -1, -1);
        Due.row("tape", Due.tape(x), 1, 2, 3);
        Due.due("feed behind", x.feed(0x09000000, 0, 0, 0, 7), 23);
        Due.row("tape", Due.tape(x), 1, 2, 3, 9, 0, 0, 0, 0, 0, 0, 0, 0, 0, 0, 0, 0, 0, 0, 0, 0, 0, 0, 7);
        Due.row("end and what was behind", new long[] {x.end(0), x.octet(0), x.count(5)}, 0, -1, 0);
        for (int k = 1; k <= 20; k++) Due.due("feed " + k, x.feed(k, k, k, k, k), 20 * k);
        Due.row("a full tape", new long[] {x.feed(1, 2, 3, 4, 5), x.count(5), x.octet(399), x.octet(400)}, -1, 400, 20, -1);
        Due.row("one place too few", new long[] {x.end(381), x.feed(1, 2, 3, 4, 5), x.count(5)}, 381, -1, 381);
        Due.row("just as many", new long[] {x.end(380), x.feed(1, 2, 3, 4, 5), x.octet(399)}, 380, 400, 5);
        Due.due("none of these is an act", x.count(4), 0);
    }

    private static void packed() {
        TailRecorder x = new TailRecorder();
        x.make(0, 0, 1, 1000);
        Due.due("pack of an empty one", x.pack(0), 5);
        Due.row("tape", Due.tape(x), 165, 0, 1, 1000 % 128 + C, 7);
        x.make(1, 1, 2, 1000000000000L);
        x.record(1, 0, 5, 0);
        x.record(1, 3, 64, 0);
        x.record(1, 4, 1, 0);
        x.record(1, 255, 1000000000000L, 0);
        Due.due("pack, in place of what was there", x.pack(1), 22);
        // 10^12 is 0001 1101 0001 1010 1001 0100 1010 0101 0001 0000 0000 0000: seven bits each, the lowest first
        Due.row("tape", Due.tape(x), 165, 1, 2, 128, 160, 148, 165, 141, 29, 10, 3, 128, 1, 2, 243, 3, 128, 192, 168, 202, 154, 58);
        Due.row("without", new long[] {x.pack(2), x.pack(-1), x.pack(4), x.count(5), x.count(4)}, -1, -1, -1, 22, 6);
    }

    /** A head of 6 bytes and slots of a byte each: slot 0 has nothing, a row of one byte. */
    private static void packedTooLong() {
        TailRecorder x = new TailRecorder();
        x.make(0, 0, 2, 100000);
        x.record(0, 394, 1, 1);
        Due.due("slots that are not 0", x.setting(0, 4), 255 + 70);
        Due.due("pack", x.pack(0), 6 + 1 + 325);
        x.record(0, 536, 1, 1);
        Due.due("slots that are not 0", x.setting(0, 4), 255 + 128 + 7);
        Due.due("pack", x.pack(0), 6 + 1 + 390);
        x.record(0, 540, 1, 0);
        x.record(0, 548, 1, 0);
        Due.due("pack of 400, with a row of one slot between", x.pack(0), 400);
        x.record(0, 552, 1, 0);
        x.end(7);
        Due.row("more than 400", new long[] {x.pack(0), x.count(5), x.octet(0), x.octet(6), x.octet(7)}, -2, 7, 165, 1, -1);
        x.record(0, 552, 999999999999L, 0);
        Due.row("more than 400 within a number", new long[] {x.pack(0), x.count(5)}, -2, 7);
        x.takeOff(0, 0);
        x.record(0, 255, 1, 0);
        Due.row("a longer row of zeros is one number", new long[] {x.pack(0), x.octet(6), x.octet(7), x.octet(8)}, 9, 509 % 128 + C, 3, 2);
    }

    private static void unpacked() {
        TailRecorder x = new TailRecorder();
        Due.fill(x, 165, 0, 1, 232, 7, 3, 14, 2, 128, 0x80, 0x80, 0);
        Due.due("a number may have more bytes, but none of 0", x.unpack(0), -2 - (8 * 8 + 3));
        Due.row("nothing happens but for the tape", Due.counts(x), 0, 0, 0, -1, 0, 0);
        Due.fill(x, 165, 0, 1, 232, 7, 131, 0, 142, 0x80, 0x80, 0x80, 0x80, 0x80, 0x80, 0x80, 0, 2);
        Due.due("unpack, numbers as long as they may be", x.unpack(0), 112);
        Due.row("units", new long[] {x.at(0, 0), x.at(0, 1), x.at(0, 2), x.at(0, 3), x.at(0, 4), x.count(5)}, 0, 0, 7, 1, 0, 0);
        Due.row("settings", new long[] {x.setting(0, 0), x.setting(0, 1), x.setting(0, 2), x.setting(0, 3)}, 0, 1, 1000, 112);
        Due.row("kinds as by shelving", new long[] {x.kind(0, 0), x.kind(0, 1)}, 10, 0);
        x.example(0, 3, true, 9);
        x.end(0);
        Due.fill(x, 165, 1, 2, 232, 7);
        Due.row("in place of what is there, no examples", new long[] {x.unpack(0), x.examples(0), x.total(0), x.setting(0, 0)}, 507, 0, 0, 1);
        Due.row("without a number, the tape stays", new long[] {x.feed(1, 1, 1, 1, 1), x.unpack(4), x.unpack(-1), x.count(5)}, 20, -1, -1, 20);
        // 16 slots of 3, 16 of 65536 and one more of 65536
        int[] bytes = new int[5 + 16 + 17 * 3];
        System.arraycopy(new int[] {165, 0, 1, 232, 7}, 0, bytes, 0, 5);
        java.util.Arrays.fill(bytes, 5, 21, 6);
        for (int k = 21; k < bytes.length; k += 3) { bytes[k] = 128; bytes[k + 1] = 128; bytes[k + 2] = 8; }
        Due.fill(x, bytes);
        Due.row("kinds as by shelving", new long[] {x.unpack(3), x.kind(3, 0), x.kind(3, 1), x.kind(3, 2), x.total(3), x.room(3)}, 112, 9, 9, 5, 48 + 17 * 65536, 80);
        Due.row("again packed the same", new long[] {x.pack(3), x.octet(5), x.octet(21), x.octet(23)}, bytes.length, 6, 128, 8);
        bytes[1] = 1;
        Due.fill(x, bytes);
        Due.row("of weights", new long[] {x.unpack(3), x.kind(3, 0), x.kind(3, 1), x.kind(3, 2), x.total(3)}, 112, 9, 9, 7, 48 + 17 * 65536);
        // the last slot, 111, with the most units that there may be: 2 * 10^15
        Due.fill(x, 165, 0, 1, 232, 7, 221, 1, 128, 128, 180, 204, 212, 223, 198, 3);
        Due.row("most of the last slot", new long[] {x.unpack(2), x.at(2, 1000), x.total(2), x.kind(2, 6)}, 112, 1000000000000000L, 1000000000000000L, 6);
    }

    private static void fault(String what, long place, int code, int... bytes) {
        TailRecorder x = new TailRecorder();
        x.make(0, 0, 1, 2000);
        x.record(0, 5, 7, 0);
        Due.fill(x, bytes);
        Due.due("fault: " + what, x.unpack(0), -2 - (8 * place + code));
        Due.row("and but for the tape nothing happens", new long[] {x.at(0, 5), x.total(0), x.setting(0, 2), x.count(4), x.count(5)}, 7, 7, 2000, 2, 0);
    }

    private static void faultsOfHead() {
        fault("empty", 0, 1);
        fault("first byte", 0, 1, 164, 0, 1, 232, 7);
        fault("ends behind the first", 1, 1, 165);
        fault("sort", 1, 1, 165, 2, 1, 232, 7);
        fault("sort of 255", 1, 1, 165, M, 1, 232, 7);
        fault("ends behind the sort", 2, 1, 165, 1);
        fault("digits 0", 2, 1, 165, 1, 0, 232, 7);
        fault("digits 3", 2, 1, 165, 1, 3, 232, 7);
        fault("ends ahead of highest", 3, 1, 165, 1, 2);
        fault("ends within highest", 4, 1, 165, 1, 2, 232);
        fault("ends within highest, eight bytes", 11, 1, 165, 1, 2, C, C, C, C, C, C, C, C);
        fault("highest of 10 bytes", 3, 2, 165, 1, 2, C, C, C, C, C, C, C, C, C, 1);
        fault("highest of 9 bytes that would go on", 3, 2, 165, 1, 2, C, C, C, C, C, C, C, C, C);
        fault("highest 999", 3, 2, 165, 0, 1, 231, 7);
        fault("highest 0", 3, 2, 165, 0, 1, 0);
        fault("highest 10^12 + 1", 3, 2, 165, 0, 1, 129, 160, 148, 165, 141, 29);
        fault("highest 2^63 - 1", 3, 2, 165, 0, 1, M, M, M, M, M, M, M, M, 127);
    }

    private static void faultsOfNumbers() {
        fault("ends within a number", 6, 1, 165, 0, 1, 232, 7, 130);
        fault("ends within a later number", 8, 1, 165, 0, 1, 232, 7, 2, 2, 130);
        fault("ends within a number behind a row of 0", 7, 1, 165, 0, 1, 232, 7, 1, 130);
        fault("a number of 10 bytes", 5, 2, 165, 0, 1, 232, 7, C, C, C, C, C, C, C, C, C, 1);
        fault("a number of 10 bytes later", 6, 2, 165, 0, 1, 232, 7, 2, 130, C, C, C, C, C, C, C, C, 1);
        fault("one unit too many", 5, 2, 165, 0, 1, 232, 7, 130, 128, 180, 204, 212, 223, 198, 3);
        fault("the most units a number has", 5, 2, 165, 0, 1, 232, 7, 254, M, M, M, M, M, M, M, 127);
    }

    private static void faultsOfSlots() {
        fault("0", 5, 3, 165, 0, 1, 232, 7, 0);
        fault("0 of three bytes", 6, 3, 165, 0, 1, 232, 7, 2, C, C, 0, 2);
        fault("a row of 0 behind another", 6, 3, 165, 0, 1, 232, 7, 1, 1, 2);
        fault("a row of 0 behind another, at the end: the least", 6, 3, 165, 0, 1, 232, 7, 1, 1);
        fault("a row of 0 at the end", 5, 4, 165, 0, 1, 232, 7, 1);
        fault("a row of 0 at the end, later", 6, 4, 165, 0, 1, 232, 7, 2, 3);
        fault("a row of all slots", 5, 4, 165, 0, 1, 232, 7, 223, 1);
        fault("a row of a slot too many", 5, 3, 165, 0, 1, 232, 7, 225, 1);
        fault("a slot behind a row of all", 7, 3, 165, 0, 1, 232, 7, 223, 1, 2);
        fault("a row of as many as a number can", 5, 3, 165, 0, 1, 232, 7, M, M, M, M, M, M, M, M, 127);
        fault("a row that goes beyond from slot 1", 6, 3, 165, 0, 1, 232, 7, 2, 223, 1, 2);
        fault("too many units beyond the last: the least", 7, 2, 165, 0, 1, 232, 7, 223, 1, 130, 128, 180, 204, 212, 223, 198, 3);
    }
}
