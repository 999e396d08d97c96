/** What Terms IV and promises 2, 3, 4, 24, 25 say of the tape, packing, unpacking and faults, at each boundary. */
public final class EdgeTapeTest {
    private static final long TOP = 1000000000000L;
    private static final long MOST = 1000000000000000L;
    private static final int C = 128;
    private static final int M = 255;
    /** 165, counts, one digit, highest 1000: 112 slots. */
    private static final int[] HEAD = {165, 0, 1, 232, 7};

    public static void main(String[] args) {
        fedBytesHighestFirst();
        fed400AtMost();
        endedAtItsBytes();
        octetsOfTheTape();
        packedHead();
        packedToTheLastSlotThatIsNot0();
        packedRowsOf0();
        packedNumbers();
        packed400AtMost();
        packedInPlaceOfTheTape();
        packedOfNoRecorder();
        unpackedEmptiesTheTape();
        unpackedInPlaceOfWhatIsThere();
        unpackedPagesAsByShelving();
        unpackedOfNoRecorder();
        faultOfByte0();
        faultOfSort();
        faultOfDigits();
        faultOfAnEnd();
        faultOfAnEndBehindARowOf0();
        faultOfMoreThan9Bytes();
        faultOfHighest();
        faultOfUnits();
        faultOfNumber0();
        faultOfARowBeyondTheLast();
        faultOfASlotBeyondTheLast();
        faultOfARowBehindARow();
        faultOfARowAtTheEnd();
        faultIsTheFirst();
        faultIsTheLeastOfOnePlace();
        Due.finish();
    }

    private static TailRecorder with(int... tape) {
        TailRecorder x = new TailRecorder();
        Due.fill(x, tape);
        return x;
    }

    private static int[] bytes(int[] head, int... more) {
        int[] all = java.util.Arrays.copyOf(head, head.length + more.length);
        System.arraycopy(more, 0, all, head.length, more.length);
        return all;
    }

    /** The head and n slots of one unit each. */
    private static int[] ones(int n, int... more) {
        int[] slots = new int[n];
        java.util.Arrays.fill(slots, 2);
        return bytes(bytes(HEAD, slots), more);
    }

    private static void good(String what, long total, int... tape) {
        TailRecorder x = with(tape);
        long slots = x.unpack(0);
        Due.row("good: " + what, new long[] {slots < 1 ? slots : 0, x.total(0), x.count(0), x.count(4), x.count(5)}, 0, total, 1, 1, 0);
    }

    private static void fault(String what, int place, int code, int... tape) {
        TailRecorder x = with(tape);
        Due.row("fault: " + what, new long[] {x.unpack(0), x.count(0), x.count(4), x.count(5), x.octet(0)}, -2 - (8 * place + code), 0, 0, 0, -1);
    }

    private static void fedBytesHighestFirst() {
        Due.sentence("2: twenty bytes come behind the TAPE, of each number the highest first");
        TailRecorder x = new TailRecorder();
        Due.due("feed", x.feed(0x01020380, -2, Integer.MIN_VALUE, Integer.MAX_VALUE, 0xff0000), 20);
        Due.row("tape", Due.tape(x), 1, 2, 3, 128, 255, 255, 255, 254, 128, 0, 0, 0, 127, 255, 255, 255, 0, 255, 0, 0);
        x.end(1);
        Due.row("behind one byte", new long[] {x.feed(0x05060708, 0, 0, 0, 9), x.octet(0), x.octet(1), x.octet(4), x.octet(20), x.octet(21)}, 21, 1, 5, 8, 9, -1);
    }

    private static void fed400AtMost() {
        Due.sentence("2: NONE, and none comes, if it would have more than 400");
        TailRecorder x = new TailRecorder();
        for (int k = 1; k <= 20; k++) Due.due("feed " + k, x.feed(k, k, k, k, k), 20 * k);
        Due.row("400, one number more", new long[] {x.feed(9, 9, 9, 9, 9), x.count(5), x.octet(399), x.octet(400), x.octet(380)}, -1, 400, 20, -1, 0);
        Due.row("381", new long[] {x.end(381), x.feed(9, 9, 9, 9, 9), x.count(5), x.octet(380), x.octet(381)}, 381, -1, 381, 0, -1);
        Due.row("380", new long[] {x.end(380), x.feed(9, 9, 9, 9, 8), x.count(5), x.octet(399), x.octet(400)}, 380, 400, 400, 8, -1);
        Due.row("379", new long[] {x.end(379), x.feed(9, 9, 9, 9, 7), x.count(5), x.octet(398), x.octet(399), x.feed(1, 1, 1, 1, 1)}, 379, 399, 399, 7, -1, -1);
    }

    private static void endedAtItsBytes() {
        Due.sentence("3: the TAPE has its first n bytes alone: n; NONE, and nothing happens, if it has not so many, or n is below 0");
        TailRecorder x = new TailRecorder();
        Due.row("of none", new long[] {x.end(0), x.end(1), x.end(-1), x.count(5)}, 0, -1, -1, 0);
        x.feed(0x01020304, 0x05060708, 0, 0, 0x0a0b0c0d);
        Due.row("of 20", new long[] {x.end(21), x.end(-1), x.end(Integer.MIN_VALUE), x.end(Integer.MAX_VALUE), x.count(5), x.octet(19), x.end(20), x.octet(19), x.end(19), x.octet(19), x.octet(18)},
            -1, -1, -1, -1, 20, 13, 20, 13, 19, -1, 12);
        Due.row("of 19", new long[] {x.end(20), x.count(5), x.end(1), x.octet(0), x.octet(1), x.end(0), x.octet(0), x.count(5)}, -1, 19, 1, 1, -1, 0, -1, 0);
    }

    private static void octetsOfTheTape() {
        Due.sentence("4: a byte of the TAPE (0 to 255); NONE: there is none");
        TailRecorder x = new TailRecorder();
        Due.row("of none", new long[] {x.octet(0), x.octet(-1), x.octet(1)}, -1, -1, -1);
        x.feed(0x00ff7f80, 0, 0, 0, 0x01);
        Due.row("of 20", new long[] {x.octet(-1), x.octet(0), x.octet(1), x.octet(2), x.octet(3), x.octet(19), x.octet(20), x.octet(400), x.octet(Integer.MIN_VALUE), x.octet(Integer.MAX_VALUE)},
            -1, 0, 255, 127, 128, 1, -1, -1, -1, -1);
    }

    private static void packedHead() {
        Due.sentence("165; SORT; DIGITS; HIGHEST (as a NUMBER)");
        TailRecorder x = new TailRecorder();
        x.make(0, 0, 1, 1000);
        Due.row("of an empty one", new long[] {x.pack(0), x.count(5)}, 5, 5);
        Due.row("tape", Due.tape(x), 165, 0, 1, 104 + C, 7);
        x.make(0, 1, 2, 16383);
        Due.due("two bytes of highest", x.pack(0), 5);
        Due.row("tape", Due.tape(x), 165, 1, 2, 255, 127);
        x.make(0, 1, 2, 16384);
        Due.due("three bytes of highest", x.pack(0), 6);
        Due.row("tape", Due.tape(x), 165, 1, 2, 128, 128, 1);
        x.make(0, 0, 2, TOP);
        Due.due("the highest that there may be", x.pack(0), 9);
        Due.row("tape", Due.tape(x), 165, 0, 2, 128, 160, 148, 165, 141, 29);
    }

    private static void packedToTheLastSlotThatIsNot0() {
        Due.sentence("for its SLOTS, from 0 to the last one that is not 0");
        TailRecorder x = new TailRecorder();
        x.make(0, 0, 1, 1000);
        x.record(0, 0, 1, 0);
        Due.row("slot 0", new long[] {x.pack(0), x.octet(5), x.octet(6)}, 6, 2, -1);
        x.record(0, 2, 3, 0);
        Due.row("slot 2", new long[] {x.pack(0), x.octet(5), x.octet(6), x.octet(7), x.octet(8)}, 8, 2, 1, 6, -1);
        x.halve(0);
        Due.row("slot 0 has 0", new long[] {x.pack(0), x.octet(5), x.octet(6), x.octet(7)}, 7, 3, 2, -1);
        x.halve(0);
        Due.row("all have 0", new long[] {x.pack(0), x.octet(5)}, 5, -1);
        x.record(0, 1000, 1, 0);
        Due.row("the last one there is", new long[] {x.pack(0), x.octet(5), x.octet(6), x.octet(7), x.octet(8)}, 8, 221 - 128 + C, 1, 2, -1);
    }

    private static void packedRowsOf0() {
        Due.sentence("a row of z SLOTS of 0 as 2 * z - 1");
        int[] zeros = {1, 2, 15, 16, 17, 31, 64};
        for (int z : zeros) {
            TailRecorder x = new TailRecorder();
            x.make(0, 0, 2, 1000);
            x.record(0, z, 1, 0);
            Due.row(z + " of 0", new long[] {x.pack(0), x.octet(5), x.octet(6)}, 7, 2 * z - 1, 2);
        }
        TailRecorder x = new TailRecorder();
        x.make(0, 0, 2, 1000);
        x.record(0, 65, 1, 0);
        Due.row("65 of 0: 129", new long[] {x.pack(0), x.octet(5), x.octet(6), x.octet(7)}, 8, 1 + C, 1, 2);
        x.record(0, 32, 1, 0);
        Due.row("32 of 0, one, 32 of 0, one", new long[] {x.pack(0), x.octet(5), x.octet(6), x.octet(7), x.octet(8)}, 9, 63, 2, 63, 2);
    }

    private static void packedNumbers() {
        Due.sentence("each a NUMBER: seven bits a byte, the lowest first, each byte but the last 128 more");
        long[] units = {63, 64, 8191, 8192, 1048575, 1048576, MOST};
        int[][] due = {{126}, {128, 1}, {254, 127}, {128, 128, 1}, {254, 255, 127}, {128, 128, 128, 1}, {128, 128, 180, 204, 212, 223, 198, 3}};
        for (int k = 0; k < units.length; k++) {
            TailRecorder x = with(bytes(HEAD, due[k]));
            Due.row("unpacked", new long[] {x.unpack(0), x.at(0, 0)}, 112, units[k]);
            x.feed(0, 0, 0, 0, 0);
            Due.due("packed again", x.pack(0), 5 + due[k].length);
            for (int i = 0; i < due[k].length; i++) Due.due("byte " + (5 + i), x.octet(5 + i), due[k][i]);
        }
    }

    /** 5 bytes of head, and slots 0 to 394, each of a number of one byte: 400. */
    private static TailRecorder packsTo400() {
        TailRecorder x = new TailRecorder();
        x.make(0, 0, 2, 1000);
        x.record(0, 0, 1, 0);
        x.record(0, 552, 1, 1);
        Due.due("slots that are not 0", x.setting(0, 4), 395);
        return x;
    }

    private static void packed400AtMost() {
        Due.sentence("24: -2, and nothing happens: more than 400");
        TailRecorder x = packsTo400();
        Due.row("400", new long[] {x.pack(0), x.count(5), x.octet(399)}, 400, 400, 2);
        x.end(3);
        x.record(0, 556, 1, 0);
        Due.row("401, by a slot", new long[] {x.pack(0), x.count(5), x.octet(0), x.octet(3)}, -2, 3, 165, -1);
        Due.row("400 again", new long[] {x.undo(), x.pack(0), x.count(5)}, 3, 400, 400);
        x.end(3);
        x.record(0, 552, 63, 0);
        Due.row("401, by a number of the last slot", new long[] {x.pack(0), x.count(5), x.octet(2), x.octet(3)}, -2, 3, 2, -1);
        x.undo();
        x.record(0, 0, 63, 0);
        Due.row("401, by a number of the first slot", new long[] {x.pack(0), x.count(5)}, -2, 3);
        x.undo();
        Due.row("399", new long[] {x.takeOff(0, 0), x.record(0, 551, 1, 1), x.record(0, 0, 1, 0), x.pack(0)}, 0, 4, 1, 399);
        x.record(0, 560, 1, 0);
        Due.row("401, by a row of 0 and a slot", new long[] {x.pack(0), x.count(5)}, -2, 399);
        x.undo();
        x.record(0, 552, 1, 0);
        Due.due("400, by the slot behind", x.pack(0), 400);
        long[] units = {1, 64, 8192, 1000000000000L};
        for (long n : units) {
            x.record(0, 556, n, 0);
            Due.row("401 and more, by a number of " + n + " units behind byte 399", new long[] {x.pack(0), x.count(5), x.octet(399)}, -2, 400, 2);
            x.undo();
        }
        x.make(1, 0, 2, 16384);
        x.add(1, 0);
        Due.row("401, by a longer head", new long[] {x.pack(1), x.count(5)}, -2, 400);
    }

    private static void packedInPlaceOfTheTape() {
        Due.sentence("its bytes come to the TAPE (in place of it)");
        TailRecorder x = new TailRecorder();
        x.make(0, 0, 1, 1000);
        for (int k = 0; k < 20; k++) x.feed(-1, -1, -1, -1, -1);
        Due.row("of a full tape", new long[] {x.pack(0), x.count(5), x.octet(0), x.octet(4), x.octet(5)}, 5, 5, 165, 7, -1);
        x.end(0);
        Due.row("of an empty one", new long[] {x.pack(0), x.count(5), x.pack(0), x.count(5), x.count(4)}, 5, 5, 5, 5, 1);
    }

    private static void packedOfNoRecorder() {
        Due.sentence("24: NONE, and nothing happens, without that RECORDER");
        TailRecorder x = with(1, 2, 3);
        Due.row("pack", new long[] {x.pack(0), x.pack(3), x.pack(-1), x.pack(4), x.count(5), x.octet(2)}, -1, -1, -1, -1, 3, 3);
    }

    private static void unpackedEmptiesTheTape() {
        Due.sentence("UNPACKED: the TAPE's bytes (it is empty then)");
        TailRecorder x = with(HEAD);
        Due.row("of good bytes", new long[] {x.unpack(0), x.count(5), x.octet(0), x.feed(1, 1, 1, 1, 1), x.count(5)}, 112, 0, -1, 20, 20);
        Due.sentence("25: -2 - its FAULT, and but for the TAPE nothing happens");
        Due.row("of bytes that are none", new long[] {x.unpack(0), x.count(5), x.octet(0), x.unpack(0), x.count(4), x.total(0), x.setting(0, 2)}, -2 - 1, 0, -1, -2 - 1, 1, 0, 1000);
    }

    private static void unpackedInPlaceOfWhatIsThere() {
        Due.sentence("25: UNPACKED into a RECORDER, in place of what is there: how many SLOTS");
        TailRecorder x = new TailRecorder();
        x.make(2, 0, 2, TOP);
        x.record(2, TOP, 5, 0);
        x.record(2, 3, 5, 0);
        x.example(2, 3, true, 5);
        Due.fill(x, 165, 1, 1, 232, 7, 4);
        Due.row("of one that was made", new long[] {x.unpack(2), x.setting(2, 0), x.setting(2, 1), x.setting(2, 2), x.total(2), x.at(2, 0), x.at(2, 3), x.examples(2), x.peek(2, 1, 0, 3, 0), x.count(0)},
            112, 1, 1, 1000, 2, 2, 0, 0, -4, 4);
        Due.fill(x, 165, 0, 2, 128, 160, 148, 165, 141, 29);
        Due.row("of one that was not", new long[] {x.unpack(3), x.total(3), x.room(3), x.count(0)}, 4329, 0, 0, 12);
    }

    private static void unpackedPagesAsByShelving() {
        Due.sentence("UNPACKED: its PAGES as by SHELVING, no EXAMPLES");
        long[] level = new long[16];
        java.util.Arrays.fill(level, 1);
        long[] units = new long[100];
        System.arraycopy(level, 0, units, 0, 16);
        units[16] = 65535;
        units[32] = 65536;
        units[48] = 2147483648L;
        java.util.Arrays.fill(units, 80, 96, 70000);
        units[96] = 1;
        TailRecorder x = with(Due.packed(0, 2, 1000, units));
        Due.row("counts", new long[] {x.unpack(0), x.kind(0, 0), x.kind(0, 1), x.kind(0, 2), x.kind(0, 3), x.kind(0, 4), x.kind(0, 5), x.kind(0, 6), x.kind(0, 7), x.shelve(0), x.examples(0)},
            507, 9, 10, 5, 6, 0, 9, 10, 0, 0, 0);
        units[48] = 1048577;
        units[32] = 1048576;
        x = with(Due.packed(1, 2, 1000, units));
        Due.row("weights", new long[] {x.unpack(0), x.kind(0, 0), x.kind(0, 1), x.kind(0, 2), x.kind(0, 3), x.kind(0, 4), x.kind(0, 5), x.kind(0, 6), x.kind(0, 7), x.shelve(0)},
            507, 9, 7, 7, 8, 0, 9, 7, 0, 0);
    }

    private static void unpackedOfNoRecorder() {
        Due.sentence("25: NONE, and nothing happens, without that number");
        TailRecorder x = with(HEAD);
        Due.row("unpack", new long[] {x.unpack(-1), x.unpack(4), x.unpack(Integer.MIN_VALUE), x.unpack(Integer.MAX_VALUE), x.count(5), x.count(0), x.count(4), x.unpack(3), x.count(0)},
            -1, -1, -1, -1, 5, 0, 0, 112, 8);
    }

    private static void faultOfByte0() {
        Due.sentence("FAULT 1: byte 0 is not 165");
        good("165", 0, HEAD);
        int[] wrong = {164, 166, 0, 37, 255};
        for (int b : wrong) fault("byte " + b, 0, 1, b, 0, 1, 232, 7);
    }

    private static void faultOfSort() {
        Due.sentence("FAULT 1: SORT not as told");
        good("0", 0, 165, 0, 1, 232, 7);
        good("1", 0, 165, 1, 1, 232, 7);
        int[] wrong = {2, 3, 127, 128, 255};
        for (int b : wrong) fault("sort " + b, 1, 1, 165, b, 1, 232, 7);
    }

    private static void faultOfDigits() {
        Due.sentence("FAULT 1: DIGITS not as told");
        good("1", 0, 165, 0, 1, 232, 7);
        good("2", 0, 165, 0, 2, 232, 7);
        int[] wrong = {0, 3, 129, 255};
        for (int b : wrong) fault("digits " + b, 2, 1, 165, 0, b, 232, 7);
    }

    private static void faultOfAnEnd() {
        Due.sentence("FAULT 1: the TAPE ends (the place behind the last byte)");
        fault("empty", 0, 1);
        fault("1 byte", 1, 1, 165);
        fault("2 bytes", 2, 1, 165, 0);
        fault("3 bytes", 3, 1, 165, 0, 1);
        fault("within highest", 4, 1, 165, 0, 1, 232);
        fault("within highest, eight bytes", 11, 1, 165, 0, 1, 232, 135, C, C, C, C, C, C);
        good("behind highest", 0, HEAD);
        fault("within the first number", 6, 1, bytes(HEAD, 130));
        fault("within a number, eight bytes", 13, 1, bytes(HEAD, 130, C, C, C, C, C, C, C));
        good("behind the number", 1, bytes(HEAD, 130, 0));
        fault("within a later number", 17, 1, ones(11, 130));
        int[] whole = ones(112);
        good("112 slots", 112, whole);
        int[] full = new int[400];
        System.arraycopy(new int[] {165, 0, 2, 232, 7}, 0, full, 0, 5);
        java.util.Arrays.fill(full, 5, 400, 2);
        good("400 bytes", 395, full);
        full[399] = 130;
        fault("400 bytes, within a number", 400, 1, full);
    }

    private static void faultOfAnEndBehindARowOf0() {
        Due.sentence("FAULT 1: the TAPE ends (behind a row of 0, which is not at the end: something begins behind it)");
        fault("within the number behind it", 7, 1, bytes(HEAD, 1, 130));
        fault("the row", 5, 4, bytes(HEAD, 1));
        fault("within the row", 6, 1, bytes(HEAD, 129));
    }

    private static void faultOfMoreThan9Bytes() {
        Due.sentence("FAULT 2: a NUMBER (where it begins): more than 9 bytes");
        good("highest of 9 bytes", 0, 165, 0, 1, 232, 135, C, C, C, C, C, C, 0);
        fault("highest of 10 bytes", 3, 2, 165, 0, 1, 232, 135, C, C, C, C, C, C, C, 0);
        good("units of 9 bytes", 1, bytes(HEAD, 130, C, C, C, C, C, C, C, 0));
        fault("units of 10 bytes", 5, 2, bytes(HEAD, 130, C, C, C, C, C, C, C, C, 0));
        good("units of 9 bytes, later", 12, ones(11, 130, C, C, C, C, C, C, C, 0));
        fault("units of 10 bytes, later", 16, 2, ones(11, 130, C, C, C, C, C, C, C, C, 0));
        good("a row of 9 bytes", 1, bytes(HEAD, 129, C, C, C, C, C, C, C, 0, 2));
        fault("a row of 10 bytes", 5, 2, bytes(HEAD, 129, C, C, C, C, C, C, C, C, 0, 2));
        fault("9 bytes that go on, and the tape ends (NOTES.md)", 5, 2, bytes(HEAD, 130, C, C, C, C, C, C, C, C));
    }

    private static void faultOfHighest() {
        Due.sentence("FAULT 2: HIGHEST not as told");
        good("1000", 0, 165, 0, 1, 232, 7);
        good("10^12", 0, 165, 0, 1, 128, 160, 148, 165, 141, 29);
        fault("999", 3, 2, 165, 0, 1, 231, 7);
        fault("10^12 + 1", 3, 2, 165, 0, 1, 129, 160, 148, 165, 141, 29);
        fault("0", 3, 2, 165, 0, 1, 0);
        fault("0 of three bytes", 3, 2, 165, 0, 1, C, C, 0);
        fault("2^62", 3, 2, 165, 0, 1, C, C, C, C, C, C, C, C, 64);
        fault("2^63 - 1", 3, 2, 165, 0, 1, M, M, M, M, M, M, M, M, 127);
    }

    private static void faultOfUnits() {
        Due.sentence("FAULT 2: UNITS above what a SLOT may have");
        good("10^15", MOST, bytes(HEAD, 128, 128, 180, 204, 212, 223, 198, 3));
        fault("10^15 + 1", 5, 2, bytes(HEAD, 130, 128, 180, 204, 212, 223, 198, 3));
        good("10^15, later", MOST + 1, bytes(HEAD, 2, 128, 128, 180, 204, 212, 223, 198, 3));
        fault("10^15 + 1, later", 6, 2, bytes(HEAD, 2, 130, 128, 180, 204, 212, 223, 198, 3));
        fault("2^62 - 1", 5, 2, bytes(HEAD, 254, M, M, M, M, M, M, M, 127));
        good("a row is no units", 1, bytes(HEAD, 221, 1, 2));
    }

    private static void faultOfNumber0() {
        Due.sentence("FAULT 3: a NUMBER (where it begins) that is 0");
        fault("0", 5, 3, bytes(HEAD, 0));
        fault("0, later", 8, 3, ones(3, 0));
        fault("0 of two bytes", 5, 3, bytes(HEAD, C, 0));
        fault("0 of nine bytes", 5, 3, bytes(HEAD, C, C, C, C, C, C, C, C, 0));
        fault("0 behind a row of 0", 6, 3, bytes(HEAD, 1, 0, 2));
        good("1, 2", 1, bytes(HEAD, 1, 2));
    }

    private static void faultOfARowBeyondTheLast() {
        Due.sentence("FAULT 3: a NUMBER (where it begins) whose SLOTS go beyond the last one");
        good("a row of 111, the last slot", 1, bytes(HEAD, 221, 1, 2));
        fault("a row of 112: at the end", 5, 4, bytes(HEAD, 223, 1));
        fault("a row of 113", 5, 3, bytes(HEAD, 225, 1));
        fault("a row of 113 and a slot", 5, 3, bytes(HEAD, 225, 1, 2));
        good("a slot, a row of 110, the last slot", 2, bytes(HEAD, 2, 219, 1, 2));
        fault("a slot, a row of 111", 6, 4, bytes(HEAD, 2, 221, 1));
        fault("a slot, a row of 112", 6, 3, bytes(HEAD, 2, 223, 1));
        fault("as many as a number has", 5, 3, bytes(HEAD, M, M, M, M, M, M, M, M, 127));
        fault("as many as a number has behind a slot", 6, 3, bytes(HEAD, 2, M, M, M, M, M, M, M, M, 127));
    }

    private static void faultOfASlotBeyondTheLast() {
        Due.sentence("FAULT 3: a NUMBER (where it begins) whose SLOT goes beyond the last one");
        good("111 slots", 111, ones(111));
        good("112 slots", 112, ones(112));
        fault("113 slots", 117, 3, ones(113));
        fault("a slot behind a row of 112", 7, 3, bytes(HEAD, 223, 1, 2));
        good("a slot behind 110 and a row of 1", 111, ones(110, 1, 2));
        fault("a slot behind 111 and a row of 1", 117, 3, ones(111, 1, 2));
        TailRecorder x = with(ones(112));
        Due.row("the last one", new long[] {x.unpack(0), x.at(0, 1000)}, 112, 1);
    }

    private static void faultOfARowBehindARow() {
        Due.sentence("FAULT 3: a row of 0 behind another row of 0");
        fault("at once", 6, 3, bytes(HEAD, 1, 1, 2));
        fault("of more bytes", 7, 3, bytes(HEAD, 129, 1, 3, 2));
        fault("later", 9, 3, ones(3, 1, 1, 2));
        good("with a slot between", 2, bytes(HEAD, 1, 2, 1, 2));
    }

    private static void faultOfARowAtTheEnd() {
        Due.sentence("FAULT 4: a row of 0 at the end (where it begins)");
        fault("at once", 5, 4, bytes(HEAD, 1));
        fault("later", 8, 4, ones(3, 1));
        fault("of three bytes", 8, 4, ones(3, 129, C, 0));
        good("with a slot behind", 4, ones(3, 1, 2));
    }

    private static void faultIsTheFirst() {
        Due.sentence("FAULT: the place of the first that is wrong");
        fault("byte 0 and all else", 0, 1, 1, 9, 9, 0, 0);
        fault("sort and digits", 1, 1, 165, 9, 9, 232, 7);
        fault("digits and highest", 2, 1, 165, 0, 9, 0);
        fault("sort and an end", 1, 1, 165, 9);
        fault("sort and an end behind digits", 1, 1, 165, 9, 1, 232);
        fault("sort above 127 and an end", 1, 1, 165, 200);
        fault("digits and an end", 2, 1, 165, 0, 9);
        fault("digits above 127 and an end", 2, 1, 165, 0, 200);
        fault("digits above 127 and more than 9 bytes", 2, 1, 165, 0, 200, C, C, C, C, C, C, C, C, C, 0);
        fault("digits and an end within highest", 2, 1, 165, 0, 9, 232);
        fault("digits and highest of 10 bytes", 2, 1, 165, 0, 9, C, C, C, C, C, C, C, C, C, 0);
        fault("highest and a number", 3, 2, 165, 0, 1, 0, 0);
        fault("highest and an end", 3, 2, 165, 0, 1, 0, 130);
        fault("a number 0 and an end", 5, 3, bytes(HEAD, 0, 130));
        fault("units and a number 0", 5, 2, bytes(HEAD, 130, 128, 180, 204, 212, 223, 198, 3, 0));
        fault("a row beyond the last, and one behind it", 5, 3, bytes(HEAD, 225, 1, 1));
        fault("a row behind a row, and an end", 6, 3, bytes(HEAD, 1, 1, 130));
    }

    private static void faultIsTheLeastOfOnePlace() {
        Due.sentence("FAULT: of one place the least");
        fault("3 a row behind a row, 4 at the end", 6, 3, bytes(HEAD, 1, 1));
        fault("3 beyond the last, 4 at the end", 5, 3, bytes(HEAD, 225, 1));
        fault("2 too many units, 3 beyond the last", 117, 2, ones(112, 130, 128, 180, 204, 212, 223, 198, 3));
        fault("2 more than 9 bytes, 3 of a number 0", 5, 2, bytes(HEAD, C, C, C, C, C, C, C, C, C, 0));
        fault("2 more than 9 bytes, 3 a row behind a row", 6, 2, bytes(HEAD, 1, 129, C, C, C, C, C, C, C, C, 0, 2));
        fault("2 highest more than 9 bytes and not as told", 3, 2, 165, 0, 1, C, C, C, C, C, C, C, C, C, 0);
    }
}
