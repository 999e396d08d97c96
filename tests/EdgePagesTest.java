/** What Terms I and promises 17, 18, 19 say of pages, kinds, what they hold, writing and shelving, at each boundary. */
public final class EdgePagesTest {
    private static final long MOST = 1000000000000000L;
    private static final long TOP = 1000000000000L;
    /** By kind: the most that a place of its row can have. */
    private static final long[] HOLDS = {0, 1, 127, 32767, 65535, 2147483647L, MOST, 1048576, MOST};

    public static void main(String[] args) {
        pagesHave16Slots();
        theLastPageToo();
        placesAre0To15();
        beyondTheSlotsAPlaceHas0();
        kind0IsNone();
        holdsOfCounts();
        holdsOfWeights();
        holdsOfEachPlace();
        noneBecomesTheFirstKind();
        levelBecomesTheRowThatHoldsIt();
        textBecomesTheRowThatHoldsIt();
        thenTheFirstKindBehindIt();
        aRowStaysIfItHolds();
        nothingIsWrittenIfItHasThemAlready();
        neverNarrowerButByShelving();
        shelvedAll0();
        shelvedAllAlike();
        shelvedText();
        shelvedRows();
        shelvedPlacesBeyondTheSlots();
        shelveTellsHowMany();
        kindTellsPages();
        roomTellsBytes();
        Due.finish();
    }

    /** Recorder 0 (two digits, so that 0 to 255 have slots of their own), whose slots from 0 on have these units, each written at once. */
    private static TailRecorder with(int sort, long... units) {
        TailRecorder x = new TailRecorder();
        x.make(0, sort, 2, 1000);
        Due.fill(x, Due.packed(sort, 2, 1000, units));
        x.unpack(3);
        x.add(0, 3);
        return x;
    }

    /** Slots 0 to 14 have the first number, slot 15 the second. */
    private static TailRecorder page(int sort, long most, long last) {
        long[] units = new long[16];
        java.util.Arrays.fill(units, most);
        units[15] = last;
        return with(sort, units);
    }

    private static TailRecorder shelved(TailRecorder x) {
        x.shelve(0);
        return x;
    }

    private static long[] kinds(TailRecorder x, int pages) {
        long[] all = new long[pages];
        for (int p = 0; p < pages; p++) all[p] = x.kind(0, p);
        return all;
    }

    /** Recorder 1, made for it, has n in the slot of v, and is taken off recorder 0. */
    private static long takenOff(TailRecorder x, int v, long n) {
        x.make(1, (int) x.setting(0, 0), 2, 1000);
        x.record(1, v, n, 0);
        return x.takeOff(0, 1);
    }

    private static void pagesHave16Slots() {
        Due.sentence("PAGE p SLOTS 16 * p to 16 * p + 15");
        TailRecorder x = with(0);
        x.record(0, 15, 1, 0);
        Due.row("slot 15", kinds(x, 3), 1, 0, 0);
        x.record(0, 16, 2, 0);
        Due.row("slot 16", kinds(x, 3), 1, 2, 0);
        x.record(0, 31, 2, 0);
        Due.row("slot 31", kinds(x, 3), 1, 2, 0);
        x.record(0, 32, 200, 0);
        Due.row("slot 32", kinds(x, 3), 1, 2, 3);
        Due.row("places", new long[] {x.peek(0, 0, 0, 15, 0), x.peek(0, 0, 1, 0, 0), x.peek(0, 0, 1, 15, 0), x.peek(0, 0, 2, 0, 0)}, 1, 2, 2, 200);
    }

    private static void theLastPageToo() {
        Due.sentence("PAGES have 16 SLOTS each (the last one, too)");
        TailRecorder x = new TailRecorder();
        Due.row("112, 113, 128, 129 slots", new long[] {
            x.make(0, 0, 1, 1000), x.kind(0, -1), x.make(0, 0, 1, 1024), x.kind(0, -1), x.make(0, 0, 1, 2047), x.kind(0, -1), x.make(0, 0, 1, 2048), x.kind(0, -1)},
            112, 7, 113, 8, 128, 8, 129, 9);
        Due.row("the most", new long[] {x.make(0, 0, 2, TOP), x.kind(0, -1), x.record(0, TOP, 1, 0), x.kind(0, 270), x.kind(0, 271), x.peek(0, 0, 270, 8, 1), x.peek(0, 0, 270, 15, 1)},
            4329, 271, 1, 1, -1, 1, 0);
    }

    private static void placesAre0To15() {
        Due.sentence("PLACES 0 to 15");
        TailRecorder x = page(0, 1, 0);
        Due.row("peek", new long[] {x.peek(0, 0, 0, -1, 1), x.peek(0, 0, 0, 0, 1), x.peek(0, 0, 0, 15, 1), x.peek(0, 0, 0, 16, 1)}, -2, 1, 0, -2);
        Due.row("poke", new long[] {x.poke(0, 0, 0, -1, 1, 0), x.poke(0, 0, 0, 0, 1, 0), x.poke(0, 0, 0, 15, 1, 1), x.poke(0, 0, 0, 16, 1, 1), x.at(0, 0), x.at(0, 15), x.at(0, 16)},
            -2, 0, 0, -2, 0, 1, 0);
    }

    private static void beyondTheSlotsAPlaceHas0() {
        Due.sentence("beyond the SLOTS there are a PLACE has 0");
        TailRecorder x = with(0);
        x.record(0, 1000, 1, 0);
        for (int place = 0; place < 16; place++) Due.due("peek at place " + place + " of the last page", x.peek(0, 0, 31, place, 1), place == 10 ? 1 : 0);
    }

    private static void kind0IsNone() {
        Due.sentence("KIND of a PAGE: 0 none (all 0)");
        TailRecorder x = with(0);
        Due.all("made", 0, kinds(x, 32));
        x.record(0, 100, 1, 0);
        Due.row("one slot is not 0", new long[] {x.kind(0, 5), x.kind(0, 6), x.kind(0, 7)}, 0, 1, 0);
    }

    private static void holdsOfCounts() {
        Due.sentence("HOLDS 1: 1; 2: 127; 3: 32767; 4: 65535; 5: 2147483647; 6 all");
        for (int kind = 1; kind <= 6; kind++) {
            Due.due("as many as kind " + kind + " holds, at once", with(0, HOLDS[kind]).kind(0, 0), kind);
            if (kind == 6) continue;
            Due.due("one more than kind " + kind + " holds, at once", with(0, HOLDS[kind] + 1).kind(0, 0), kind + 1);
            TailRecorder x = with(0, HOLDS[kind]);
            x.record(0, 0, 1, 0);
            Due.row("one more than kind " + kind + " holds", new long[] {x.kind(0, 0), x.at(0, 0), x.peek(0, 0, 0, 0, 0)}, kind + 1, HOLDS[kind] + 1, HOLDS[kind] + 1);
            x = with(0, HOLDS[kind] - 1);
            if (kind > 1) x.record(0, 0, 1, 0);
            Due.due("just what kind " + kind + " holds", x.kind(0, 0), kind == 1 ? 0 : kind);
        }
        Due.due("a slot with all that it may have", with(0, MOST).kind(0, 0), 6);
    }

    private static void holdsOfWeights() {
        Due.sentence("HOLDS 7: 1048576 UNITS (65536 wholes); 8 all");
        Due.row("at once", new long[] {with(1, 1).kind(0, 0), with(1, 1048575).kind(0, 0), with(1, 1048576).kind(0, 0), with(1, 1048577).kind(0, 0), with(1, MOST).kind(0, 0)}, 7, 7, 7, 8, 8);
        TailRecorder x = with(1, 1048576);
        Due.row("one more", new long[] {x.record(0, 0, 1, 0), x.kind(0, 0)}, 1048577, 8);
        x = with(1, 1048575);
        Due.row("just as many", new long[] {x.record(0, 0, 1, 0), x.kind(0, 0)}, 1048576, 7);
        Due.due("65536 wholes", x.peek(0, 0, 0, 0, 0), Float.floatToIntBits(65536f));
    }

    private static void holdsOfEachPlace() {
        Due.sentence("HOLDS: what one PLACE can have of it");
        TailRecorder x = page(0, 127, 127);
        Due.row("all places 127", new long[] {x.kind(0, 0), x.total(0), x.record(0, 15, 1, 0), x.kind(0, 0), x.at(0, 0)}, 2, 16 * 127, 128, 3, 127);
        x = page(1, 1048576, 1048576);
        Due.row("all places 1048576", new long[] {x.kind(0, 0), x.record(0, 15, 1, 0), x.kind(0, 0), x.at(0, 0)}, 7, 1048577, 8, 1048576);
    }

    private static void noneBecomesTheFirstKind() {
        Due.sentence("is the PAGE none, it becomes the first KIND, then of the first KIND behind it that HOLDS the new UNITS");
        for (int kind = 1; kind <= 6; kind++) Due.due("none, written with what kind " + kind + " holds", with(0, 0, 0, 0, HOLDS[kind]).kind(0, 0), kind);
        for (int kind = 7; kind <= 8; kind++) Due.due("none, written with what kind " + kind + " holds", with(1, 0, 0, 0, HOLDS[kind]).kind(0, 0), kind);
        TailRecorder x = shelved(with(0, 300));
        Due.row("none again by shelving, then written", new long[] {x.takeOff(0, 0), x.shelve(0), x.kind(0, 0), x.record(0, 3, 1, 0), x.kind(0, 0)}, 0, 1, 0, 1, 1);
    }

    /** Written with less than there is, so that the new units widen nothing. */
    private static void levelBecomesTheRowThatHoldsIt() {
        Due.sentence("is the PAGE LEVEL, it becomes the row of the first KIND that HOLDS all its PLACES as they are");
        for (int kind = 1; kind <= 8; kind++) {
            int sort = kind < 7 ? 0 : 1;
            TailRecorder x = shelved(page(sort, HOLDS[kind], HOLDS[kind]));
            Due.due("level of what kind " + kind + " holds", x.kind(0, 0), 9);
            takenOff(x, 7, 1);
            Due.row("one taken off at one place", new long[] {x.kind(0, 0), x.at(0, 7), x.at(0, 8)}, kind, HOLDS[kind] - 1, HOLDS[kind]);
            if (kind == 6 || kind == 8) continue;
            x = shelved(page(sort, HOLDS[kind] + 1, HOLDS[kind] + 1));
            takenOff(x, 7, 1);
            Due.row("one more, and one taken off", new long[] {x.kind(0, 0), x.at(0, 7), x.at(0, 8)}, kind + 1, HOLDS[kind], HOLDS[kind] + 1);
        }
    }

    private static void textBecomesTheRowThatHoldsIt() {
        Due.sentence("is the PAGE TEXT, it becomes the row of the first KIND that HOLDS all its PLACES as they are");
        for (int kind = 1; kind <= 4; kind++) {
            TailRecorder x = shelved(page(0, 0, HOLDS[kind]));
            Due.due("text of what kind " + kind + " holds", x.kind(0, 0), 10);
            x.record(0, 0, 1, 0);
            Due.row("one more at another place", new long[] {x.kind(0, 0), x.at(0, 0), x.at(0, 15)}, kind, 1, HOLDS[kind]);
            x = shelved(page(0, 0, HOLDS[kind]));
            takenOff(x, 15, HOLDS[kind]);
            Due.row("all taken off: as they are before", new long[] {x.kind(0, 0), x.total(0)}, kind, 0);
            if (kind == 4) continue;
            x = shelved(page(0, 0, HOLDS[kind] + 1));
            takenOff(x, 15, 1);
            Due.row("one more, and one taken off", new long[] {x.kind(0, 0), x.at(0, 15)}, kind + 1, HOLDS[kind]);
        }
    }

    private static void thenTheFirstKindBehindIt() {
        Due.sentence("then, if it does not HOLD the new UNITS, of the first KIND behind it that does");
        TailRecorder x = shelved(page(0, 1, 1));
        Due.row("a level of 1", new long[] {x.record(0, 3, 1, 0), x.kind(0, 0)}, 2, 2);
        x = shelved(page(0, 1, 1));
        Due.row("a level of 1, 126 more", new long[] {x.record(0, 3, 126, 0), x.kind(0, 0)}, 127, 2);
        x = shelved(page(0, 1, 1));
        Due.row("a level of 1, 127 more", new long[] {x.record(0, 3, 127, 0), x.kind(0, 0)}, 128, 3);
        x = shelved(page(0, 0, 127));
        Due.row("a text of 127, one more at its place", new long[] {x.record(0, 15, 1, 0), x.kind(0, 0)}, 128, 3);
        x = shelved(page(0, 0, 65535));
        Due.row("a text of 65535, one more", new long[] {x.record(0, 15, 1, 0), x.kind(0, 0)}, 65536, 5);
        x = shelved(page(1, 1048576, 1048576));
        Due.row("a level of weights, one more", new long[] {x.record(0, 15, 1, 0), x.kind(0, 0)}, 1048577, 8);
        x = with(0, 1);
        Due.row("a row of booleans, many more", new long[] {x.record(0, 0, 2147483647L, 0), x.kind(0, 0)}, 2147483648L, 6);
        x = with(0, 1);
        Due.row("a row of booleans, 65534 more", new long[] {x.record(0, 0, 65534, 0), x.kind(0, 0)}, 65535, 4);
    }

    private static void aRowStaysIfItHolds() {
        Due.sentence("if it does not HOLD the new UNITS (a row that does stays what it is)");
        TailRecorder x = with(0, 1);
        Due.row("booleans", new long[] {x.record(0, 15, 1, 0), x.kind(0, 0)}, 1, 1);
        x = with(0, 126);
        Due.row("bytes", new long[] {x.record(0, 0, 1, 0), x.kind(0, 0), x.record(0, 1, 127, 0), x.kind(0, 0)}, 127, 2, 127, 2);
        x = with(0, 32768);
        Due.row("chars", new long[] {x.record(0, 1, 1, 0), x.kind(0, 0), x.record(0, 0, 32767, 0), x.kind(0, 0)}, 1, 4, 65535, 4);
    }

    private static void nothingIsWrittenIfItHasThemAlready() {
        Due.sentence("nothing is written if it has them already");
        TailRecorder x = with(0, 4);
        Due.row("half of 0 is 0: none stays none", new long[] {x.halve(0), x.kind(0, 0), x.kind(0, 1), x.kind(0, 31)}, 2, 2, 0, 0);
        x.make(1, 0, 2, 1000);
        x.record(1, 3, 1, 0);
        x.record(1, 40, 1, 0);
        Due.row("slots of 0, added and taken off", new long[] {x.add(1, 0), x.kind(1, 1), x.kind(1, 2), x.takeOff(1, 0), x.kind(1, 1), x.kind(1, 0)}, 4, 0, 1, 2, 0, 2);
        x = shelved(page(0, 3, 3));
        x.record(0, 20, 5, 0);
        Due.row("a level beside what is written", new long[] {takenOff(x, 20, 4), x.kind(0, 0), x.kind(0, 1)}, 49, 9, 2);
        x.make(2, 0, 2, 1000);
        Due.row("an empty one added, taken off", new long[] {x.add(0, 2), x.kind(0, 0), x.takeOff(0, 2), x.kind(0, 0)}, 49, 9, 49, 9);
    }

    private static void neverNarrowerButByShelving() {
        Due.sentence("it never becomes narrower but by SHELVING");
        for (int kind = 2; kind <= 8; kind++) {
            TailRecorder x = with(kind < 7 ? 0 : 1, HOLDS[kind]);
            for (int k = 0; k < 3; k++) x.halve(0);
            Due.due("halved thrice, kind " + kind, x.kind(0, 0), kind);
            x.takeOff(0, 0);
            Due.row("all taken off, kind " + kind, new long[] {x.total(0), x.kind(0, 0)}, 0, kind);
            x.record(0, 1, 1, 0);
            Due.due("one recorded, kind " + kind, x.kind(0, 0), kind);
            if (kind != 4) Due.row("poked, kind " + kind, new long[] {x.poke(0, 0, 0, 1, 2, 0), x.kind(0, 0)}, 0, kind);
            x.shelve(0);
            Due.row("by shelving", new long[] {x.total(0), x.kind(0, 0)}, kind == 4 ? 1 : 0, kind == 4 ? 10 : 0);
        }
    }

    private static void shelvedAll0() {
        Due.sentence("each PAGE: all 0: none");
        TailRecorder x = with(0, 2, 0, 0);
        takenOff(x, 0, 2);
        Due.row("all 0", new long[] {x.kind(0, 0), x.shelve(0), x.kind(0, 0), x.peek(0, 0, 0, 0, 0)}, 2, 1, 0, -4);
        x = with(0, 2, 0, 0);
        takenOff(x, 0, 1);
        Due.row("one that is not", new long[] {x.kind(0, 0), x.shelve(0), x.kind(0, 0), x.peek(0, 0, 0, 0, 0)}, 2, 1, 10, -3);
        x = with(1, 2);
        Due.row("weights", new long[] {x.halve(0), x.halve(0), x.kind(0, 0), x.shelve(0), x.kind(0, 0)}, 1, 0, 7, 1, 0);
    }

    private static void shelvedAllAlike() {
        Due.sentence("else all alike: LEVEL");
        Due.row("counts", new long[] {
            shelved(page(0, 1, 1)).kind(0, 0), shelved(page(0, 1, 0)).kind(0, 0), shelved(page(0, 1, 2)).kind(0, 0), shelved(page(0, 65535, 65535)).kind(0, 0),
            shelved(page(0, 65536, 65536)).kind(0, 0), shelved(page(0, MOST / 8, MOST / 8)).kind(0, 0), shelved(page(0, MOST / 8, MOST / 8 - 1)).kind(0, 0)}, 9, 10, 10, 9, 9, 9, 6);
        Due.row("weights", new long[] {
            shelved(page(1, 1, 1)).kind(0, 0), shelved(page(1, 1, 0)).kind(0, 0), shelved(page(1, 1048577, 1048577)).kind(0, 0), shelved(page(1, 1048577, 1)).kind(0, 0)}, 9, 7, 9, 8);
        TailRecorder x = page(0, 5, 5);
        x.record(0, 0, 1, 0);
        Due.row("the first place is another", new long[] {x.shelve(0), x.kind(0, 0)}, 1, 10);
    }

    private static void shelvedText() {
        Due.sentence("else, of counts, if all are 65535 at most: TEXT");
        Due.row("counts", new long[] {
            shelved(with(0, 1)).kind(0, 0), shelved(with(0, 65534)).kind(0, 0), shelved(with(0, 65535)).kind(0, 0), shelved(with(0, 65536)).kind(0, 0),
            shelved(page(0, 65535, 65536)).kind(0, 0), shelved(page(0, 65535, 65534)).kind(0, 0)}, 10, 10, 10, 5, 5, 10);
        Due.row("weights", new long[] {shelved(with(1, 1)).kind(0, 0), shelved(with(1, 65535)).kind(0, 0), shelved(with(1, 65536)).kind(0, 0)}, 7, 7, 7);
    }

    private static void shelvedRows() {
        Due.sentence("else the row of the first KIND that HOLDS all");
        Due.row("counts", new long[] {
            shelved(with(0, 65536)).kind(0, 0), shelved(with(0, 2147483647L)).kind(0, 0), shelved(with(0, 2147483648L)).kind(0, 0), shelved(with(0, 1, 2147483648L)).kind(0, 0)}, 5, 5, 6, 6);
        TailRecorder x = with(0, 2147483648L);
        Due.row("narrower", new long[] {takenOff(x, 0, 1), x.kind(0, 0), x.shelve(0), x.kind(0, 0)}, 2147483647L, 6, 1, 5);
        Due.row("weights", new long[] {shelved(with(1, 1048576)).kind(0, 0), shelved(with(1, 1048577)).kind(0, 0), shelved(with(1, 1048576, 1)).kind(0, 0)}, 7, 8, 7);
        x = with(1, 1048577);
        Due.row("narrower", new long[] {takenOff(x, 0, 1), x.kind(0, 0), x.shelve(0), x.kind(0, 0)}, 1048576, 8, 1, 7);
    }

    /** Place 10 of page 31 is the last slot of 1000 by two digits. */
    private static TailRecorder lastPage(long units) {
        TailRecorder x = with(0);
        for (int v = 960; v <= 1000; v += 4) x.record(0, v, units, 0);
        return x;
    }

    private static void shelvedPlacesBeyondTheSlots() {
        Due.sentence("what PLACES beyond the SLOTS get counts in KINDS and when the PAGE is WRITTEN or SHELVED");
        TailRecorder x = lastPage(2);
        Due.row("0 beyond the slots: not alike", new long[] {x.shelve(0), x.kind(0, 31)}, 1, 10);
        x = lastPage(2);
        for (int place = 11; place < 15; place++) x.poke(0, 0, 31, place, 2, 2);
        Due.row("alike but for the last place", new long[] {x.shelve(0), x.kind(0, 31)}, 1, 10);
        x = lastPage(2);
        for (int place = 11; place < 16; place++) x.poke(0, 0, 31, place, 2, 2);
        Due.row("all alike", new long[] {x.shelve(0), x.kind(0, 31), x.record(0, 1000, 1, 0), x.kind(0, 31), x.peek(0, 0, 31, 15, 2)}, 1, 9, 3, 2, 2);
        x = lastPage(2);
        Due.row("a place beyond is not 0: not none", new long[] {x.poke(0, 0, 31, 15, 2, 1), x.takeOff(0, 0), x.shelve(0), x.kind(0, 31), x.room(0)}, 0, 0, 1, 10, 32);
        Due.row("written: the row that holds that, too", new long[] {x.record(0, 1000, 1, 0), x.kind(0, 31), x.peek(0, 0, 31, 15, 1), x.total(0)}, 1, 1, 1, 1);
        x = lastPage(2);
        Due.row("a place beyond that needs bytes", new long[] {x.poke(0, 0, 31, 15, 2, 100), x.takeOff(0, 0), x.shelve(0), x.record(0, 1000, 1, 0), x.kind(0, 31)}, 0, 0, 1, 1, 2);
        x = lastPage(2);
        Due.row("and 0 again", new long[] {x.poke(0, 0, 31, 15, 2, 100), x.poke(0, 0, 31, 15, 2, 0), x.takeOff(0, 0), x.shelve(0), x.kind(0, 31)}, 0, 0, 0, 1, 0);
    }

    private static void shelveTellsHowMany() {
        Due.sentence("17: how many PAGES are of another KIND then");
        TailRecorder x = with(0);
        Due.due("none at all", x.shelve(0), 0);
        x.record(0, 3, 1, 0);
        Due.row("one", new long[] {x.shelve(0), x.shelve(0)}, 1, 0);
        x.record(0, 3, 1, 0);
        x.record(0, 33, 70000, 0);
        x.record(0, 1000, 1, 0);
        Due.row("ints stay ints", new long[] {x.shelve(0), x.shelve(0)}, 2, 0);
        x.takeOff(0, 0);
        Due.row("to none", new long[] {x.shelve(0), x.shelve(0), x.room(0)}, 3, 0, 0);
        x = shelved(page(0, 7, 7));
        Due.due("a level stays a level", x.shelve(0), 0);
        x = with(1, 5);
        Due.due("floats stay floats", x.shelve(0), 0);
    }

    private static void kindTellsPages() {
        Due.sentence("18: KIND of a PAGE; page NONE: how many PAGES. NONE without these");
        TailRecorder x = with(0);
        x.record(0, 1000, 3, 0);
        Due.row("kind", new long[] {
            x.kind(0, -2), x.kind(0, -1), x.kind(0, 0), x.kind(0, 30), x.kind(0, 31), x.kind(0, 32), x.kind(0, Integer.MIN_VALUE), x.kind(0, Integer.MAX_VALUE), x.kind(0, 270),
            x.kind(0, 271)}, -1, 32, 0, 0, 2, -1, -1, -1, -1, -1);
    }

    private static void roomTellsBytes() {
        Due.sentence("19: booleans, bytes 1 each, shorts, chars 2, ints, floats 4, longs, doubles 8; TEXTS 32, LEVELS 8");
        long[] room = {0, 16, 16, 32, 32, 64, 128, 64, 128};
        for (int kind = 1; kind <= 8; kind++) {
            TailRecorder x = with(kind < 7 ? 0 : 1, HOLDS[kind]);
            Due.row("a row of kind " + kind, new long[] {x.kind(0, 0), x.room(0)}, kind, room[kind]);
        }
        Due.row("none, a text, levels", new long[] {
            with(0).room(0), shelved(with(0, 1)).room(0), shelved(page(0, 1, 1)).room(0), shelved(page(0, MOST / 8, MOST / 8)).room(0), shelved(page(1, 1, 1)).room(0)}, 0, 32, 8, 8, 8);
        TailRecorder x = with(0, 1);
        x.record(0, 1000, 70000, 0);
        x.example(0, 500, true, 1);
        Due.row("two rows together; of a row of names nothing", new long[] {x.room(0), x.examples(0)}, 16 + 64, 1);
    }
}
