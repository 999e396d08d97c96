/** What Terms II and promises 8 to 13 say of recording, intervals, at, below, total, ranks, least, greatest, mean, at each boundary. */
public final class EdgeRecordingTest {
    private static final long TOP = 1000000000000L;
    private static final long MOST = 1000000000000000L;
    private static final long MAX = Long.MAX_VALUE;
    private static final long MIN = Long.MIN_VALUE;

    public static void main(String[] args) {
        unitsAre1To10To12();
        valuesAre0ToHighest();
        whatIsAskedFirst();
        tellsUnitsThen();
        intervalsAre0AndOn();
        asLongAsTheseAreIOrMore();
        valuesBelowTheInterval();
        thousandAtMost();
        severalToOneSlot();
        tooManyUnitsOfTheSlot();
        tooManyUnitsOfAnAwaitedOne();
        atIs0ToHighest();
        belowIs0ToHighest();
        belowIsAheadOfTheSlot();
        totalIsAll();
        ranksAre0To100000();
        rankOfNothing();
        wantedIsUpwards();
        wantedIs1AtLeast();
        rankIsHighestAtMost();
        rankOfWideTotals();
        aboutIs0To2();
        aboutOfNothing();
        leastAndGreatest();
        greatestIsHighestAtMost();
        meanIsDownwards();
        meanIsAsWideAsItMustBe();
        meanOfManyWideSlots();
        meanOfOneWideSlot();
        Due.finish();
    }

    private static TailRecorder made(int digits, long highest) {
        TailRecorder x = new TailRecorder();
        x.make(0, 0, digits, highest);
        return x;
    }

    /** Recorder 0, of two digits, whose slots from 0 on have these units. */
    private static TailRecorder with(long... units) {
        TailRecorder x = new TailRecorder();
        Due.fill(x, Due.packed(0, 2, 1000, units));
        x.unpack(0);
        return x;
    }

    private static void unitsAre1To10To12() {
        Due.sentence("n (1 to 1000000000000 UNITS); NONE for other n");
        TailRecorder x = made(1, 1000);
        Due.row("record", new long[] {
            x.record(0, 5, 0, 0), x.record(0, 5, -1, 0), x.record(0, 5, MIN, 0), x.record(0, 5, TOP + 1, 0), x.record(0, 5, MAX, 0), x.total(0), x.count(4),
            x.record(0, 5, 1, 0), x.record(0, 6, TOP, 0), x.total(0), x.count(4)},
            -1, -1, -1, -1, -1, 0, 1, 1, TOP, TOP + 1, 3);
        Due.row("with an interval", new long[] {x.record(0, 8, 0, 2), x.record(0, 8, TOP + 1, 2), x.total(0), x.record(0, 9, TOP, 3), x.total(0)}, -1, -1, TOP + 1, TOP, 4 * TOP + 1);
    }

    private static void valuesAre0ToHighest() {
        Due.sentence("v is of 0 to HIGHEST: else it can't be");
        TailRecorder x = made(1, 1000);
        Due.row("record", new long[] {
            x.record(0, -1, 1, 0), x.record(0, MIN, 1, 0), x.record(0, 1001, 1, 0), x.record(0, 1023, 1, 0), x.record(0, 1024, 1, 0), x.record(0, MAX, 1, 0), x.record(0, MAX, 1, MAX),
            x.record(0, -1, 1, 1), x.total(0), x.count(4), x.record(0, 0, 1, 0), x.record(0, 1000, 1, 0), x.record(0, 999, 1, 0), x.total(0), x.count(4)},
            -2, -2, -2, -2, -2, -2, -2, -2, 0, 1, 1, 1, 2, 3, 4);
        x = made(2, TOP);
        Due.row("of the highest", new long[] {x.record(0, TOP + 1, 1, 0), x.record(0, TOP, 1, 0), x.total(0)}, -2, 1, 1);
    }

    private static void whatIsAskedFirst() {
        Due.sentence("8: NONE without that RECORDER, or for other n, intervals below 0 (whatever else is wrong)");
        TailRecorder x = made(1, 1000);
        Due.all("record", -1, x.record(0, 1001, 0, 0), x.record(0, -1, TOP + 1, 0), x.record(0, 1001, 1, -1), x.record(0, -5, 0, -1), x.record(1, 1001, 1, 0), x.record(4, -1, 1, 0));
        Due.row("nothing happens", new long[] {x.total(0), x.count(4)}, 0, 1);
    }

    private static void tellsUnitsThen() {
        Due.sentence("8: UNITS of v's SLOT then");
        TailRecorder x = made(1, 1000);
        Due.row("record", new long[] {x.record(0, 32, 3, 0), x.record(0, 33, 4, 0), x.record(0, 34, 1, 0), x.record(0, 31, 1, 0), x.record(0, 33, 5, 11)}, 3, 7, 1, 1, 12);
    }

    private static void intervalsAre0AndOn() {
        Due.sentence("interval 0: without; NONE for intervals below 0; WITH AN INTERVAL i (1 and on)");
        TailRecorder x = made(1, 1000);
        Due.row("record", new long[] {
            x.record(0, 5, 1, -1), x.record(0, 5, 1, MIN), x.total(0), x.record(0, 5, 1, 0), x.total(0), x.record(0, 5, 1, 1), x.total(0), x.record(0, 5, 1, MAX), x.total(0)},
            -1, -1, 0, 1, 1, 2, 6, 3, 7);
        Due.row("1 awaits 5, 4, 3, 2, 1", new long[] {x.at(0, 0), x.at(0, 1), x.at(0, 2), x.at(0, 3), x.at(0, 4), x.at(0, 5)}, 0, 1, 1, 1, 1, 3);
    }

    private static void asLongAsTheseAreIOrMore() {
        Due.sentence("then also v - i, v - 2 * i, .. as long as these are i or more, each with n");
        TailRecorder x = made(2, 1000);
        Due.row("59 every 30: 29 is less", new long[] {x.record(0, 59, 7, 30), x.total(0), x.at(0, 29)}, 7, 7, 0);
        Due.row("60 every 30: 30 is as much", new long[] {x.record(0, 60, 7, 30), x.total(0), x.at(0, 30), x.at(0, 0)}, 7, 21, 7, 0);
        Due.row("61 every 30: 31 is more", new long[] {x.record(0, 61, 7, 30), x.total(0), x.at(0, 31), x.at(0, 1)}, 7, 35, 7, 0);
        Due.row("89 every 30: 59, not 29", new long[] {x.record(0, 89, 1, 30), x.at(0, 59), x.at(0, 29)}, 1, 8, 0);
        Due.row("90 every 30: 60, 30", new long[] {x.record(0, 90, 1, 30), x.at(0, 60), x.at(0, 30), x.total(0)}, 1, 8, 8, 40);
    }

    private static void valuesBelowTheInterval() {
        Due.sentence("v itself, even if it is less than i");
        TailRecorder x = made(2, 1000);
        Due.row("29, 30, 31 every 30", new long[] {x.record(0, 29, 1, 30), x.total(0), x.record(0, 30, 1, 30), x.total(0), x.record(0, 31, 1, 30), x.total(0)}, 1, 1, 1, 2, 1, 3);
        Due.row("0 every 1, every so many", new long[] {x.record(0, 0, 1, 1), x.record(0, 0, 1, MAX), x.at(0, 0), x.total(0)}, 1, 2, 2, 5);
    }

    private static void thousandAtMost() {
        Due.sentence("1000 of them at most: else it can't be");
        TailRecorder x = made(1, TOP);
        Due.row("every 1", new long[] {x.record(0, 1002, 1, 1), x.total(0), x.count(4), x.record(0, 1000, 1, 1), x.total(0), x.record(0, 1001, 1, 1), x.total(0)}, -2, 0, 1, 9, 1000, 19, 2001);
        x = made(1, TOP);
        // 7014 - 7, .. down to 7 are 1001; of 7013 the last would be 6
        Due.row("every 7", new long[] {x.record(0, 7014, 1, 7), x.total(0), x.record(0, 7013, 1, 7) < 1 ? 1 : 0, x.total(0)}, -2, 0, 0, 1001);
        x = made(2, TOP);
        Due.row("far more", new long[] {x.record(0, TOP, 1, 1), x.record(0, TOP, 1, TOP / 1002), x.total(0), x.record(0, TOP, 1, TOP / 1001) < 1 ? 1 : 0, x.total(0)}, -2, -2, 0, 0, 1001);
        x = made(1, 1000);
        Due.row("all of them in a recorder to 1000", new long[] {x.record(0, 1000, 1, 1), x.total(0)}, 9, 1000);
    }

    private static void severalToOneSlot() {
        Due.sentence("each with n (those of one SLOT, too)");
        TailRecorder x = made(1, 1000);
        Due.row("992 to 1000 are of one slot", new long[] {x.record(0, 1000, 2, 1), x.at(0, 992), x.at(0, 991), x.at(0, 32), x.at(0, 31), x.at(0, 1), x.at(0, 0)}, 18, 18, 64, 4, 2, 2, 0);
        x = made(1, 1000);
        Due.row("one more in a slot than its kind holds", new long[] {x.record(0, 33, 1, 1), x.kind(0, 2), x.kind(0, 1)}, 2, 2, 1);
    }

    private static void tooManyUnitsOfTheSlot() {
        Due.sentence("would a SLOT have more than it may, it can't be, and nothing happens");
        TailRecorder x = with(0, 0, 0, MOST - TOP, 0, MOST - 5);
        Due.row("as many as it may", new long[] {x.record(0, 3, TOP, 0), x.record(0, 3, 1, 0), x.at(0, 3)}, MOST, -2, MOST);
        Due.row("5 more, not 6", new long[] {x.record(0, 5, 6, 0), x.at(0, 5), x.record(0, 5, 5, 0), x.record(0, 5, 1, 0), x.at(0, 5)}, -2, MOST - 5, MOST, -2, MOST);
        x = made(1, 1000);
        // 31 * 32 + 8 values of 512 to 543 and on: 32 of them are of one slot
        for (int k = 0; k < 31; k++) x.record(0, 543, TOP, 1);
        Due.row("so many of one slot", new long[] {x.at(0, 543), x.record(0, 543, TOP, 1), x.at(0, 543), x.at(0, 1), x.record(0, 519, TOP, 1), x.at(0, 543), x.record(0, 519, 1, 1), x.at(0, 1)},
            992 * TOP, -2, 992 * TOP, 31 * TOP, MOST, MOST, -2, 32 * TOP);
    }

    private static void tooManyUnitsOfAnAwaitedOne() {
        Due.sentence("would a SLOT (an awaited one) have more than it may, it can't be, and nothing happens");
        TailRecorder x = with(0, 0, 0, MOST - 5, 0, 0, MOST - 7);
        Due.row("the last of three", new long[] {x.record(0, 9, 6, 3), x.at(0, 9), x.at(0, 6), x.at(0, 3), x.record(0, 9, 5, 3), x.at(0, 9), x.at(0, 6), x.at(0, 3)},
            -2, 0, MOST - 7, MOST - 5, 5, 5, MOST - 2, MOST);
        Due.row("the one between", new long[] {x.record(0, 8, 3, 2), x.at(0, 8), x.at(0, 4), x.at(0, 2), x.record(0, 8, 2, 2), x.at(0, 6), x.record(0, 8, 1, 2), x.at(0, 8)},
            -2, 0, 0, 0, 2, MOST, -2, 2);
        Due.row("one that is below the interval is not awaited", new long[] {x.record(0, 13, 9, 5), x.at(0, 8), x.at(0, 3), x.total(0)}, 9, 11, MOST, 2 * MOST + 9 + 11 + 5 + 2 + 2);
    }

    private static void atIs0ToHighest() {
        Due.sentence("9: AT v; NONE without these (v 0 to HIGHEST)");
        TailRecorder x = made(1, 1000);
        x.record(0, 1000, 3, 0);
        x.record(0, 0, 4, 0);
        Due.row("at", new long[] {x.at(0, -1), x.at(0, 0), x.at(0, 1), x.at(0, 991), x.at(0, 992), x.at(0, 1000), x.at(0, 1001), x.at(0, 1023), x.at(0, 1024), x.at(0, MAX), x.at(0, MIN)},
            -1, 4, 0, 0, 3, 3, -1, -1, -1, -1, -1);
    }

    private static void belowIs0ToHighest() {
        Due.sentence("10: BELOW v; NONE likewise");
        TailRecorder x = made(1, 1000);
        x.record(0, 0, 4, 0);
        Due.row("below", new long[] {x.below(0, -1), x.below(0, 0), x.below(0, 1), x.below(0, 1000), x.below(0, 1001), x.below(0, 1023), x.below(0, MAX), x.below(0, MIN), x.below(1, 0)},
            -1, 0, 4, 4, -1, -1, -1, -1, -1);
    }

    private static void belowIsAheadOfTheSlot() {
        Due.sentence("BELOW v: UNITS of all SLOTS ahead of that of v");
        TailRecorder x = made(1, 1000);
        x.record(0, 31, 1, 0);
        x.record(0, 32, 10, 0);
        x.record(0, 34, 100, 0);
        x.record(0, 1000, 1000, 0);
        Due.row("below", new long[] {x.below(0, 31), x.below(0, 32), x.below(0, 33), x.below(0, 34), x.below(0, 35), x.below(0, 36), x.below(0, 991), x.below(0, 992), x.below(0, 1000)},
            0, 1, 1, 11, 11, 111, 111, 111, 111);
        x = with();
        x.record(0, 15, 1, 0);
        x.record(0, 16, 2, 0);
        Due.row("of other pages", new long[] {x.below(0, 15), x.below(0, 16), x.below(0, 17), x.below(0, 32)}, 0, 1, 3, 3);
    }

    private static void totalIsAll() {
        Due.sentence("TOTAL: all UNITS");
        TailRecorder x = made(1, 1000);
        Due.due("of nothing", x.total(0), 0);
        x.record(0, 0, 1, 0);
        x.record(0, 1000, 2, 0);
        Due.due("the first slot and the last", x.total(0), 3);
        long[] units = new long[30];
        java.util.Arrays.fill(units, MOST);
        x = with(units);
        for (int k = 0; k < 5; k++) Due.due("the most of 30 slots", x.total(0), 30 * MOST);
        Due.row("together", new long[] {x.below(0, 29), x.below(0, 30), x.below(0, 1000)}, 29 * MOST, 30 * MOST, 30 * MOST);
    }

    private static void ranksAre0To100000() {
        Due.sentence("RANK r (0 to 100000); NONE without these");
        TailRecorder x = with(0, 0, 0, 1, 0, 0, 1);
        Due.row("rank", new long[] {x.rank(0, -1), x.rank(0, 0), x.rank(0, 100000), x.rank(0, 100001), x.rank(0, Integer.MIN_VALUE), x.rank(0, Integer.MAX_VALUE), x.rank(1, 0)}, -1, 3, 6, -1, -1, -1, -1);
    }

    private static void rankOfNothing() {
        Due.sentence("12: -2: TOTAL is 0");
        TailRecorder x = made(1, 1000);
        Due.row("rank", new long[] {x.rank(0, 0), x.rank(0, 100000), x.rank(0, -1), x.rank(0, 100001), x.record(0, 0, 1, 0), x.rank(0, 0), x.halve(0), x.rank(0, 0)}, -2, -2, -1, -1, 1, 0, 0, -2);
        x = with();
        x.poke(0, 0, 31, 15, 2, 1);
        x.record(0, 1000, 2, 0);
        x.poke(0, 0, 31, 15, 2, 1);
        Due.row("but for a place beyond the slots", new long[] {x.takeOff(0, 0), x.rank(0, 50000), x.about(0, 1)}, 0, -2, -2);
    }

    private static void wantedIsUpwards() {
        Due.sentence("WANTED is r * TOTAL / 100000, upwards: the first SLOT with which all UNITS till it are WANTED at least");
        TailRecorder x = with(0, 0, 0, 1, 0, 1, 0, 0, 1);
        Due.row("of 3", new long[] {x.rank(0, 33333), x.rank(0, 33334), x.rank(0, 66666), x.rank(0, 66667), x.rank(0, 99999), x.rank(0, 100000)}, 3, 5, 5, 8, 8, 8);
        x = with(0, 0, 0, 25, 0, 75);
        Due.row("of 100, just as many", new long[] {x.rank(0, 24999), x.rank(0, 25000), x.rank(0, 25001), x.rank(0, 100000)}, 3, 3, 5, 5);
        x = with(0, 99999, 1);
        Due.row("of 100000", new long[] {x.rank(0, 99998), x.rank(0, 99999), x.rank(0, 100000)}, 1, 1, 2);
        x = with(0, 100000, 1);
        Due.row("of 100001", new long[] {x.rank(0, 99998), x.rank(0, 99999), x.rank(0, 100000)}, 1, 1, 2);
    }

    private static void wantedIs1AtLeast() {
        Due.sentence("WANTED is 1 at least");
        TailRecorder x = with(0, 0, 0, 1, 5);
        Due.row("rank 0 is that of rank 1", new long[] {x.rank(0, 0), x.rank(0, 1), x.rank(0, 16666), x.rank(0, 16667)}, 3, 3, 3, 4);
        Due.row("not of slot 0, which has 0", new long[] {x.about(0, 0), x.rank(0, 0)}, 3, 3);
    }

    private static void rankIsHighestAtMost() {
        Due.sentence("the HIGH, but HIGHEST at most");
        TailRecorder x = made(1, 1000);
        x.record(0, 992, 1, 0);
        Due.due("HIGH 1023, HIGHEST 1000", x.rank(0, 0), 1000);
        x = made(1, 1023);
        x.record(0, 992, 1, 0);
        Due.due("HIGH 1023, HIGHEST 1023", x.rank(0, 0), 1023);
        x = made(1, 1024);
        x.record(0, 992, 1, 0);
        x.record(0, 1024, 1, 0);
        Due.row("HIGH 1023, 1087, HIGHEST 1024", new long[] {x.rank(0, 50000), x.rank(0, 50001)}, 1023, 1024);
        x = made(1, 1022);
        x.record(0, 960, 1, 0);
        x.record(0, 992, 1, 0);
        Due.row("HIGH 991, 1023, HIGHEST 1022", new long[] {x.rank(0, 50000), x.rank(0, 50001)}, 991, 1022);
    }

    private static void rankOfWideTotals() {
        Due.sentence("r * TOTAL / 100000 (wider than a long)");
        long[] units = new long[40];
        java.util.Arrays.fill(units, MOST);
        TailRecorder x = with(units);
        // 40 * 10^15 by 100000: 4 * 10^11 of each rank, 2500 ranks of each slot
        for (int s = 0; s < 40; s += 13) Due.row("slot " + s, new long[] {x.rank(0, 2500 * s), x.rank(0, 2500 * s + 1), x.rank(0, 2500 * s + 2500)}, Math.max(0, s - 1), s, s);
        x = with(units);
        Due.due("one more", x.record(0, 100, 1, 0), 1);
        Due.row("then the last of each slot is too few", new long[] {x.rank(0, 2500), x.rank(0, 97500), x.rank(0, 99999), x.rank(0, 100000)}, 1, 39, 39, 100);
    }

    private static void aboutIs0To2() {
        Due.sentence("13: LEAST (what 0), GREATEST (1), MEAN (2). NONE without these");
        TailRecorder x = with(0, 0, 0, 3, 0, 0, 0, 1);
        Due.row("about", new long[] {x.about(0, -1), x.about(0, 0), x.about(0, 1), x.about(0, 2), x.about(0, 3), x.about(0, Integer.MIN_VALUE), x.about(0, Integer.MAX_VALUE), x.about(1, 0)},
            -1, 3, 7, 4, -1, -1, -1, -1);
    }

    private static void aboutOfNothing() {
        Due.sentence("13: -2: TOTAL is 0");
        TailRecorder x = made(1, 1000);
        Due.row("about", new long[] {x.about(0, -1), x.about(0, 0), x.about(0, 1), x.about(0, 2), x.about(0, 3)}, -1, -2, -2, -2, -1);
        x.record(0, 0, 1, 0);
        Due.row("one unit of slot 0", new long[] {x.about(0, 0), x.about(0, 1), x.about(0, 2)}, 0, 0, 0);
        x.takeOff(0, 0);
        Due.row("taken off", new long[] {x.kind(0, 0), x.about(0, 0), x.about(0, 1), x.about(0, 2)}, 1, -2, -2, -2);
    }

    private static void leastAndGreatest() {
        Due.sentence("LEAST, GREATEST: LOW of the first, HIGH of the last SLOT that is not 0");
        TailRecorder x = made(1, 2000);
        x.record(0, 70, 1, 0);
        Due.row("of one slot", new long[] {x.about(0, 0), x.about(0, 1)}, 68, 71);
        x.record(0, 130, 1, 0);
        x.record(0, 33, 1, 0);
        Due.row("of three", new long[] {x.about(0, 0), x.about(0, 1)}, 32, 135);
        x.record(0, 0, 1, 0);
        x.record(0, 2000, 1, 0);
        Due.row("of the first and the last", new long[] {x.about(0, 0), x.about(0, 1)}, 0, 2000);
        x = made(1, 2000);
        x.record(0, 70, 1, 0);
        x.record(0, 500, 1, 0);
        x.record(0, 100, 8, 0);
        Due.row("slots that are 0 again", new long[] {x.halve(0), x.about(0, 0), x.about(0, 1)}, 4, 100, 103);
    }

    private static void greatestIsHighestAtMost() {
        Due.sentence("HIGH (HIGHEST at most)");
        long[] highest = {1000, 1022, 1023};
        for (long h : highest) {
            TailRecorder x = made(1, h);
            x.record(0, 992, 1, 0);
            Due.row("HIGH 1023, HIGHEST " + h, new long[] {x.about(0, 0), x.about(0, 1), x.about(0, 2)}, 992, h, 1007);
        }
        TailRecorder x = made(1, 1024);
        x.record(0, 992, 1, 0);
        Due.row("HIGH 1023, HIGHEST 1024", new long[] {x.about(0, 1), x.record(0, 1024, 1, 0), x.about(0, 1)}, 1023, 1, 1024);
    }

    private static void meanIsDownwards() {
        Due.sentence("MEAN: of all SLOTS MIDDLE * UNITS, together, by TOTAL, downwards");
        Due.row("of 3 and 4", new long[] {
            with(0, 0, 0, 1, 1).about(0, 2), with(0, 0, 0, 1, 2).about(0, 2), with(0, 0, 0, 0, 2).about(0, 2), with(0, 0, 0, 1, 1000000).about(0, 2), with(1, 0, 0, 0, 1).about(0, 2)}, 3, 3, 4, 3, 2);
        TailRecorder x = made(1, 1000);
        x.record(0, 67, 1, 0);
        Due.due("MIDDLE of 64 to 67", x.about(0, 2), 65);
        x.record(0, 71, 1, 0);
        Due.due("65 and 69", x.about(0, 2), 67);
        x.record(0, 32, 1, 0);
        Due.due("65, 69 and 32: 166 by 3", x.about(0, 2), 55);
        x = made(1, 1000);
        x.record(0, 1000, 1, 0);
        Due.due("MIDDLE, though it is above HIGHEST", x.about(0, 2), 1007);
    }

    private static void meanIsAsWideAsItMustBe() {
        Due.sentence("MEAN: sums as wide as they must be");
        TailRecorder x = new TailRecorder();
        Due.fill(x, Due.packed(0, 2, TOP, 1));
        x.unpack(0);
        x.record(0, TOP, TOP, 0);
        for (int k = 0; k < 9; k++) x.add(0, 0);
        long middle = x.edge(2, TOP, 2);
        long top = 512 * TOP;
        Due.row("512 * 10^12 of the last slot, 512 of the first", new long[] {x.at(0, TOP), x.at(0, 0), x.about(0, 2)}, top, 512, wide(middle, top, 0, 512));
        x.record(0, 0, TOP, 0);
        Due.due("10^12 more of the first", x.about(0, 2), wide(middle, top, 0, TOP + 512));
        x.record(0, TOP / 2, TOP - 1, 0);
        java.math.BigInteger sum = product(middle, top).add(product(x.edge(2, TOP / 2, 2), TOP - 1));
        Due.due("and of one between", x.about(0, 2), sum.divide(java.math.BigInteger.valueOf(top + TOP + 512 + TOP - 1)).longValue());
    }

    private static void meanOfManyWideSlots() {
        Due.sentence("MEAN: of all SLOTS MIDDLE * UNITS, together (sums as wide as they must be)");
        for (int first = 4290; first < 4300; first++) {
            long[] units = new long[first + 30];
            java.math.BigInteger sum = java.math.BigInteger.ZERO;
            long total = 0;
            for (int s = first; s < units.length; s++) {
                units[s] = MOST - (s * 7919L * (first + s) * 104729L) % (MOST / 2);
                sum = sum.add(product(Model.middle(2, s), units[s]));
                total += units[s];
            }
            TailRecorder x = new TailRecorder();
            Due.fill(x, Due.packed(0, 2, TOP, units));
            Due.row("slots " + first + " and on", new long[] {x.unpack(0), x.total(0), x.about(0, 2)}, 4329, total, sum.divide(java.math.BigInteger.valueOf(total)).longValue());
        }
    }

    /** Just a multiple of TOTAL, and a little less: what is lost or won anywhere in the sum shows. */
    private static void meanOfOneWideSlot() {
        Due.sentence("MEAN: MIDDLE * UNITS, together, by TOTAL, downwards (of wide sums that just are a multiple, or are not)");
        long[] units = {MOST, MOST - 1, 876543210987654L, 562949953421312L, 562949953421311L, 33554433, 33554431};
        for (int s = 4328; s > 300; s = s > 4300 ? s - 7 : s * 5 / 6) {
            for (long n : units) {
                long[] row = new long[s + 1];
                row[s] = n;
                TailRecorder x = new TailRecorder();
                Due.fill(x, Due.packed(0, 2, TOP, row));
                Due.row(n + " of slot " + s, new long[] {x.unpack(0), x.about(0, 2)}, 4329, Model.middle(2, s));
                row[s - 1] = 1;
                Due.fill(x, Due.packed(0, 2, TOP, row));
                java.math.BigInteger sum = product(Model.middle(2, s), n).add(java.math.BigInteger.valueOf(Model.middle(2, s - 1)));
                Due.row("and 1 of the one ahead", new long[] {x.unpack(0), x.about(0, 2)}, 4329, sum.divide(java.math.BigInteger.valueOf(n + 1)).longValue());
            }
        }
    }

    private static java.math.BigInteger product(long a, long b) {
        return java.math.BigInteger.valueOf(a).multiply(java.math.BigInteger.valueOf(b));
    }

    private static long wide(long a, long units, long b, long more) {
        return product(a, units).add(product(b, more)).divide(java.math.BigInteger.valueOf(units + more)).longValue();
    }
}
