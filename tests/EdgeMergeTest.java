/** What Terms II and promises 14, 15, 16, 32 say of adding, taking off, halving and being alike, at each boundary. */
public final class EdgeMergeTest {
    private static final long TOP = 1000000000000L;
    private static final long MOST = 1000000000000000L;

    public static void main(String[] args) {
        eachSlotByItsLow();
        ofOneSort();
        aLowThatAHas();
        onlyTheLastSlotThatIsNot0();
        addedSlotsHaveTheMostAtMost();
        addedTogetherInOneSlot();
        slotsOfMoreThanOneRecording();
        addedToItself();
        addTellsTotal();
        takenOffAsMuchAsThereIs();
        takenOffTogetherFromOneSlot();
        takenOffALowThatAHas();
        takenOffItself();
        halvedDownwards();
        mergedOfNoRecorder();
        likeUnits();
        likeSettings();
        likeKindsAndExamplesAreNotAsked();
        Due.finish();
    }

    /** Recorder r, of counts, whose slots from 0 on have these units. */
    private static void fill(TailRecorder x, int r, int digits, long highest, long... units) {
        Due.fill(x, Due.packed(0, digits, highest, units));
        x.unpack(r);
    }

    private static TailRecorder two(long[] a, long[] b) {
        TailRecorder x = new TailRecorder();
        fill(x, 0, 2, 1000, a);
        fill(x, 1, 2, 1000, b);
        return x;
    }

    private static void eachSlotByItsLow() {
        Due.sentence("RECORDER b's SLOTS, each by its LOW, are RECORDED to a");
        TailRecorder x = new TailRecorder();
        x.make(0, 0, 2, 1000);
        x.make(1, 0, 1, 1000);
        x.record(1, 31, 1, 0);
        x.record(1, 33, 2, 0);
        x.record(1, 67, 3, 0);
        x.record(1, 1000, 4, 0);
        Due.row("of wide slots to narrow ones", new long[] {x.add(0, 1), x.at(0, 31), x.at(0, 32), x.at(0, 33), x.at(0, 64), x.at(0, 67), x.at(0, 992), x.at(0, 1000), x.total(1)},
            10, 1, 2, 0, 3, 0, 4, 0, 10);
        x.record(0, 33, 5, 0);
        x.record(0, 995, 6, 0);
        Due.row("of narrow slots to wide ones", new long[] {x.add(1, 0), x.at(1, 31), x.at(1, 32), x.at(1, 64), x.at(1, 1000), x.total(0)}, 31, 2, 9, 6, 14, 21);
    }

    private static void ofOneSort() {
        Due.sentence("they must be of one SORT: else it can't be");
        for (int sort = 0; sort < 2; sort++) {
            TailRecorder x = new TailRecorder();
            x.make(0, sort, 1, 1000);
            x.make(1, 1 - sort, 1, 1000);
            x.make(2, sort, 2, 2000);
            x.record(0, 5, 1, 0);
            Due.row("other sorts, though nothing is there", new long[] {x.add(0, 1), x.add(1, 0), x.takeOff(0, 1), x.takeOff(1, 0), x.total(0), x.total(1), x.count(4)}, -2, -2, -2, -2, 1, 0, 4);
            Due.row("one sort", new long[] {x.add(0, 2), x.add(2, 0), x.takeOff(0, 2), x.count(4)}, 1, 1, 0, 7);
        }
    }

    private static void aLowThatAHas() {
        Due.sentence("b's last SLOT that is not 0 of a LOW that a has");
        TailRecorder x = new TailRecorder();
        x.make(0, 0, 2, 1000);
        x.make(1, 0, 2, 2000);
        x.record(1, 1003, 1, 0);
        Due.row("LOW 1000, HIGHEST 1000", new long[] {x.add(0, 1), x.at(0, 1000)}, 1, 1);
        x.record(1, 1004, 1, 0);
        Due.row("LOW 1004, HIGHEST 1000", new long[] {x.add(0, 1), x.takeOff(0, 1), x.total(0)}, -2, -2, 1);
        x.make(0, 0, 2, 1003);
        Due.row("LOW 1004, HIGHEST 1003", new long[] {x.add(0, 1), x.total(0)}, -2, 0);
        x.make(0, 0, 2, 1004);
        Due.row("LOW 1004, HIGHEST 1004", new long[] {x.add(0, 1), x.at(0, 1004), x.at(0, 1000)}, 2, 1, 1);
        x.make(0, 0, 1, 1000);
        x.make(1, 0, 1, TOP);
        x.record(1, 1023, 1, 0);
        Due.row("LOW 992, though HIGH is above HIGHEST", new long[] {x.add(0, 1), x.at(0, 1000)}, 1, 1);
        x.record(1, 1024, 1, 0);
        Due.row("LOW 1024", new long[] {x.add(0, 1), x.total(0), x.add(1, 0), x.at(1, 1000)}, -2, 1, 3, 2);
    }

    private static void onlyTheLastSlotThatIsNot0() {
        Due.sentence("b's last SLOT that is not 0 (slots of 0 behind it are not asked)");
        TailRecorder x = new TailRecorder();
        x.make(0, 0, 1, 1000);
        x.make(1, 0, 2, TOP);
        Due.row("an empty one of many slots", new long[] {x.add(0, 1), x.takeOff(0, 1), x.count(4)}, 0, 0, 4);
        x.record(1, 5, 2, 0);
        x.record(1, TOP, 1, 0);
        Due.row("a slot far beyond", new long[] {x.add(0, 1), x.takeOff(0, 1), x.total(0)}, -2, -2, 0);
        Due.row("it is 0 again", new long[] {x.halve(1), x.kind(1, 270), x.add(0, 1), x.takeOff(0, 1), x.total(0)}, 1, 1, 1, 0, 0);
        x.make(1, 0, 2, 1100);
        x.record(1, 1100, 2, 0);
        x.make(2, 0, 2, 1000);
        x.record(1, 7, 2, 0);
        Due.row("taken off again, one that a has is left", new long[] {x.add(2, 1), x.halve(1), x.add(2, 1), x.halve(1), x.add(2, 1)}, -2, 2, -2, 0, 0);
    }

    private static void addedSlotsHaveTheMostAtMost() {
        Due.sentence("ADDED: would a SLOT have more than it may, it can't be");
        TailRecorder x = two(new long[] {0, 0, 0, MOST - 5, 0, MOST - 5}, new long[] {0, 1, 0, 5, 0, 6});
        Due.row("a later slot one too many", new long[] {x.add(0, 1), x.at(0, 1), x.at(0, 3), x.at(0, 5), x.count(4)}, -2, 0, MOST - 5, MOST - 5, 2);
        x = two(new long[] {0, 0, 0, MOST - 5, 0, MOST - 5}, new long[] {0, 1, 0, 5, 0, 5});
        Due.row("just as many", new long[] {x.add(0, 1), x.at(0, 1), x.at(0, 3), x.at(0, 5), x.count(4), x.add(0, 1)}, 2 * MOST + 1, 1, MOST, MOST, 3, -2);
        x = two(new long[] {0, MOST, 0, 7}, new long[] {0, 0, 0, 7});
        Due.row("a full slot beside", new long[] {x.add(0, 1), x.at(0, 1), x.at(0, 3)}, MOST + 14, MOST, 14);
    }

    private static void addedTogetherInOneSlot() {
        Due.sentence("ADDED: b's SLOTS that come to one SLOT of a, together");
        TailRecorder x = new TailRecorder();
        x.make(0, 0, 1, 1000);
        long[] units = new long[35];
        units[32] = MOST - 3;
        units[33] = 3;
        fill(x, 1, 2, 1000, units);
        Due.row("just as many as a slot may", new long[] {x.add(0, 1), x.at(0, 32)}, MOST, MOST);
        x.make(0, 0, 1, 1000);
        units[33] = 4;
        units[34] = 1;
        fill(x, 1, 2, 1000, units);
        Due.row("one more", new long[] {x.add(0, 1), x.total(0)}, -2, 0);
        units[33] = 3;
        units[34] = MOST;
        fill(x, 1, 2, 1000, units);
        Due.row("as many in each of two slots", new long[] {x.add(0, 1), x.at(0, 33), x.at(0, 34)}, 2 * MOST, MOST, MOST);
        x.make(0, 0, 1, 1000);
        x.record(0, 33, 1, 0);
        Due.row("with what is there", new long[] {x.add(0, 1), x.total(0)}, -2, 1);
        units[32] = MOST - 4;
        fill(x, 1, 2, 1000, units);
        Due.row("just as many with what is there", new long[] {x.add(0, 1), x.at(0, 32)}, 2 * MOST, MOST);
    }

    private static void slotsOfMoreThanOneRecording() {
        Due.sentence("in a SLOT 1000000000000000 at most (also of what is added at once, NOTES.md)");
        TailRecorder x = two(new long[] {0}, new long[] {0, TOP, TOP + 1, MOST});
        Due.row("added, taken off", new long[] {x.add(0, 1), x.at(0, 1), x.at(0, 2), x.at(0, 3), x.takeOff(0, 1)}, MOST + 2 * TOP + 1, TOP, TOP + 1, MOST, 0);
    }

    private static void addedToItself() {
        Due.sentence("14: RECORDER b is ADDED to a (perhaps itself)");
        TailRecorder x = two(new long[] {1, 0, 3, MOST / 2}, new long[] {0, MOST / 2 + 1});
        Due.row("itself", new long[] {x.add(0, 0), x.at(0, 0), x.at(0, 1), x.at(0, 2), x.at(0, 3), x.add(0, 0), x.at(0, 0)}, MOST + 8, 2, 0, 6, MOST, -2, 2);
        Due.row("one more than half", new long[] {x.add(1, 1), x.total(1)}, -2, MOST / 2 + 1);
        x.make(2, 0, 1, 1000);
        Due.row("an empty one", new long[] {x.add(2, 2), x.count(4)}, 0, 5);
    }

    private static void addTellsTotal() {
        Due.sentence("14: TOTAL of a then");
        TailRecorder x = two(new long[] {1, 2}, new long[] {0, 4, 8});
        Due.row("add", new long[] {x.add(0, 1), x.total(0), x.total(1), x.add(1, 0)}, 15, 15, 12, 27);
    }

    private static void takenOffAsMuchAsThereIs() {
        Due.sentence("TAKEN OFF: each SLOT of a gets less; one that has not so much: it can't be");
        TailRecorder x = two(new long[] {0, 5, 0, 7}, new long[] {0, 5, 0, 8});
        Due.row("a later slot has one too few", new long[] {x.takeOff(0, 1), x.at(0, 1), x.at(0, 3), x.count(4)}, -2, 5, 7, 2);
        x = two(new long[] {0, 5, 0, 7, 9}, new long[] {0, 5, 0, 7});
        Due.row("just as much", new long[] {x.takeOff(0, 1), x.at(0, 1), x.at(0, 3), x.at(0, 4), x.total(1), x.count(4)}, 9, 0, 0, 9, 12, 3);
        x = two(new long[] {0, 5, 0, 7}, new long[] {0, 5, 0, 6});
        Due.row("one is left", new long[] {x.takeOff(0, 1), x.at(0, 3)}, 1, 1);
        x = two(new long[] {0, 5}, new long[] {0, 0, 1});
        Due.row("a slot that has nothing", new long[] {x.takeOff(0, 1), x.total(0)}, -2, 5);
        x = two(new long[] {0, MOST}, new long[] {0, MOST});
        Due.row("the most that there may be", new long[] {x.takeOff(0, 1), x.at(0, 1)}, 0, 0);
    }

    private static void takenOffTogetherFromOneSlot() {
        Due.sentence("TAKEN OFF: likewise (b's SLOTS that come to one SLOT of a, together)");
        TailRecorder x = new TailRecorder();
        x.make(0, 0, 1, 1000);
        x.record(0, 32, 9, 0);
        x.record(0, 34, 1, 0);
        long[] units = new long[35];
        units[32] = 4;
        units[33] = 6;
        fill(x, 1, 2, 1000, units);
        Due.row("one too many", new long[] {x.takeOff(0, 1), x.at(0, 32), x.at(0, 34)}, -2, 9, 1);
        units[33] = 5;
        units[34] = 1;
        fill(x, 1, 2, 1000, units);
        Due.row("just as many", new long[] {x.takeOff(0, 1), x.at(0, 32), x.at(0, 34)}, 0, 0, 0);
        x.make(0, 0, 2, 1000);
        x.record(0, 33, 5, 0);
        x.make(1, 0, 1, 1000);
        x.record(1, 33, 5, 0);
        Due.row("by its low: 32 has not so much", new long[] {x.takeOff(0, 1), x.at(0, 33), x.record(0, 32, 5, 0), x.takeOff(0, 1), x.at(0, 33), x.at(0, 32)}, -2, 5, 5, 5, 5, 0);
    }

    private static void takenOffALowThatAHas() {
        Due.sentence("TAKEN OFF: likewise (of a LOW that a has)");
        TailRecorder x = new TailRecorder();
        x.make(0, 0, 1, 1000);
        x.record(0, 1000, 5, 0);
        x.make(1, 0, 2, 2000);
        x.record(1, 1003, 2, 0);
        Due.row("LOW 1000", new long[] {x.takeOff(0, 1), x.at(0, 1000)}, 3, 3);
        x.record(1, 1004, 1, 0);
        Due.row("LOW 1004, of a slot that a has", new long[] {x.takeOff(0, 1), x.at(0, 1000)}, -2, 3);
    }

    private static void takenOffItself() {
        Due.sentence("15: RECORDER b is TAKEN OFF a (itself)");
        TailRecorder x = two(new long[] {1, 0, 3, MOST}, new long[] {0});
        Due.row("itself", new long[] {x.takeOff(0, 0), x.setting(0, 4), x.takeOff(0, 0), x.takeOff(1, 1), x.count(4)}, 0, 0, 0, 0, 5);
    }

    private static void halvedDownwards() {
        Due.sentence("HALVED: each SLOT's UNITS by 2, downwards");
        TailRecorder x = two(new long[] {0, 1, 2, 3, 4, MOST - 1, MOST}, new long[] {0});
        x.record(0, 1000, 7, 0);
        Due.row("halve", new long[] {x.halve(0), x.at(0, 0), x.at(0, 1), x.at(0, 2), x.at(0, 3), x.at(0, 4), x.at(0, 5), x.at(0, 6), x.at(0, 1000)},
            1 + 1 + 2 + MOST - 1 + 3, 0, 0, 1, 1, 2, MOST / 2 - 1, MOST / 2, 3);
        Due.row("an empty one", new long[] {x.halve(1), x.total(1)}, 0, 0);
        x.make(2, 1, 1, 1000);
        x.record(2, 5, 17, 0);
        Due.row("weights: sixteenths, not wholes", new long[] {x.halve(2), x.at(2, 5)}, 8, 8);
        Due.row("16: NONE without that RECORDER", new long[] {x.halve(3), x.halve(-1), x.halve(4)}, -1, -1, -1);
    }

    private static void mergedOfNoRecorder() {
        Due.sentence("14, 15: NONE, and nothing happens, without these");
        int[] none = {-1, 2, 3, 4, Integer.MIN_VALUE, Integer.MAX_VALUE};
        for (int r : none) {
            TailRecorder x = two(new long[] {0, 5}, new long[] {0, 3});
            Due.all("with " + r, -1, x.add(0, r), x.add(r, 0), x.add(r, r), x.takeOff(0, r), x.takeOff(r, 0), x.takeOff(r, r));
            Due.row("then", new long[] {x.total(0), x.total(1), x.count(0), x.count(4), x.add(0, 1), x.takeOff(0, 1)}, 5, 3, 3, 2, 8, 5);
        }
    }

    private static void likeUnits() {
        Due.sentence("32: whether two RECORDERS have like UNITS (1, 0)");
        TailRecorder x = two(new long[] {1, 0, 3}, new long[] {1, 0, 3});
        Due.row("alike", new long[] {x.same(0, 1), x.same(1, 0), x.same(0, 0)}, 1, 1, 1);
        x.record(1, 1000, 1, 0);
        Due.row("but for the last slot", new long[] {x.same(0, 1), x.same(1, 0), x.record(0, 1000, 1, 0), x.same(0, 1)}, 0, 0, 1, 1);
        x.record(1, 0, 1, 0);
        Due.row("but for the first slot", new long[] {x.same(0, 1), x.same(1, 0), x.record(0, 0, 1, 0), x.same(0, 1)}, 0, 0, 2, 1);
        x.record(0, 15, 1, 0);
        Due.row("but for the last slot of a page", new long[] {x.same(0, 1), x.same(1, 0), x.record(1, 15, 2, 0), x.same(1, 0)}, 0, 0, 2, 0);
        Due.row("NONE without these", new long[] {x.same(0, 2), x.same(2, 0), x.same(2, 2), x.same(-1, 0), x.same(0, 4), x.same(4, 4)}, -1, -1, -1, -1, -1, -1);
    }

    private static void likeSettings() {
        Due.sentence("32: whether two RECORDERS have like SORT, DIGITS, HIGHEST");
        TailRecorder x = new TailRecorder();
        x.make(0, 0, 1, 1000);
        Due.row("sort", new long[] {x.make(1, 1, 1, 1000), x.same(0, 1), x.make(1, 0, 1, 1000), x.same(0, 1)}, 112, 0, 112, 1);
        Due.row("digits", new long[] {x.make(1, 0, 2, 1000), x.same(0, 1), x.same(1, 0)}, 507, 0, 0);
        Due.row("highest, as many slots", new long[] {x.make(1, 0, 1, 1001), x.same(0, 1), x.same(1, 0), x.make(0, 0, 1, 1001), x.same(0, 1)}, 112, 0, 0, 112, 1);
    }

    private static void likeKindsAndExamplesAreNotAsked() {
        Due.sentence("32: KINDS, EXAMPLES are not asked");
        TailRecorder x = two(new long[] {5, 5}, new long[] {5, 5});
        x.record(0, 40, 2, 0);
        x.record(1, 40, 4, 0);
        x.make(2, 0, 2, 1000);
        x.record(2, 40, 2, 0);
        x.takeOff(1, 2);
        Due.row("a text, a row", new long[] {x.shelve(0), x.kind(0, 2), x.kind(1, 2), x.same(0, 1)}, 1, 10, 2, 1);
        x.example(0, 40, true, 1);
        Due.due("names", x.same(0, 1), 1);
        x.takeOff(0, 2);
        x.takeOff(1, 2);
        Due.row("none, a row of zeros", new long[] {x.shelve(0), x.kind(0, 2), x.kind(1, 2), x.same(0, 1), x.same(1, 0)}, 1, 0, 2, 1, 1);
        x.record(0, 1000, 2, 0);
        x.record(1, 1000, 2, 0);
        x.poke(0, 0, 31, 11, 2, 9);
        Due.row("places beyond the slots count for nothing", new long[] {x.same(0, 1), x.same(1, 0)}, 1, 1);
    }
}
