/** What Terms III and promises 20 to 23 say of peeking, poking, examples and names, at each boundary. */
public final class EdgePeekPokeTest {
    private static final long MOST = 1000000000000000L;
    private static final long MIN = Long.MIN_VALUE;
    /** By kind, 1 to 8: what slots 0 and 1 have, so that the row is of that kind. */
    private static final long[] UNITS = {0, 1, 100, 300, 40000, 70000, 5000000000L, 24, 1048577};

    public static void main(String[] args) {
        nothingThenPlaceThenKind();
        withoutTheseComesFirst();
        peekedPlaces();
        peekedHows();
        peekedWhats();
        peekedPages();
        peekedRows();
        peekedLevelsAndTexts();
        peekedExamples();
        toldNumbers();
        toldFloatsRounded();
        pokedHows();
        pokedNumbers();
        pokedWhats();
        pokedPages();
        pokedRows();
        pokedBooleans();
        pokedNumbersOfEachKind();
        pokedLevelsAndTexts();
        pokedExamplesAndNames();
        pokedNothingAtAll();
        placesBeyondTheSlots();
        whatCameFirst();
        examplesOfValues();
        examplesHave0To100();
        examplesAreCounted();
        Due.finish();
    }

    /** Recorder 0 of counts (0) or weights (1), whose slots from 0 on have these units, each written at once. */
    private static TailRecorder with(int sort, long... units) {
        TailRecorder x = new TailRecorder();
        x.make(0, sort, 2, 1000);
        Due.fill(x, Due.packed(sort, 2, 1000, units));
        x.unpack(3);
        x.add(0, 3);
        return x;
    }

    private static TailRecorder ofKind(int kind) {
        TailRecorder x = with(kind < 7 ? 0 : 1, UNITS[kind], 0, UNITS[kind]);
        Due.due("kind", x.kind(0, 0), kind);
        return x;
    }

    /** Its first page is a level (alike) or a text. */
    private static TailRecorder shelved(boolean alike) {
        long[] units = new long[16];
        java.util.Arrays.fill(units, 3);
        units[7] = alike ? 3 : 4;
        TailRecorder x = with(0, units);
        x.shelve(0);
        Due.due("kind", x.kind(0, 0), alike ? 9 : 10);
        return x;
    }

    /** Page 0 has an example beside it, at place 3 (42); page 1 a name, at place 4 (7). */
    private static TailRecorder marked() {
        TailRecorder x = with(0);
        x.example(0, 3, false, 42);
        x.example(0, 20, true, 7);
        return x;
    }

    private static long f(float x) { return Float.floatToIntBits(x); }
    private static long d(double x) { return Double.doubleToLongBits(x); }

    private static void nothingThenPlaceThenKind() {
        Due.sentence("nothing (-4): the PAGE is none. Else the PLACE is not 0 to 15 (-2). Else the KIND is not right (-3)");
        TailRecorder x = with(0, 1);
        Due.row("peek at none", new long[] {x.peek(0, 0, 1, 0, 1), x.peek(0, 0, 1, 16, 1), x.peek(0, 0, 1, -1, 5), x.peek(0, 0, 1, 0, 5)}, -4, -4, -4, -4);
        Due.row("peek at a row", new long[] {x.peek(0, 0, 0, 16, 1), x.peek(0, 0, 0, -1, 5), x.peek(0, 0, 0, 16, 5), x.peek(0, 0, 0, 15, 5), x.peek(0, 0, 0, 15, 1)}, -2, -2, -2, -3, 0);
        Due.row("poke into none", new long[] {x.poke(0, 0, 1, 0, 1, 1), x.poke(0, 0, 1, 16, 1, 1), x.poke(0, 0, 1, -1, 5, 1), x.poke(0, 0, 1, 0, 20, 1)}, -4, -4, -4, -4);
        Due.row("poke into a row", new long[] {x.poke(0, 0, 0, 16, 1, 1), x.poke(0, 0, 0, -1, 5, 1), x.poke(0, 0, 0, 16, 20, 1), x.poke(0, 0, 0, 15, 5, 1), x.poke(0, 0, 0, 15, 1, 1)}, -2, -2, -2, -3, 0);
        x = marked();
        Due.row("peek at examples", new long[] {x.peek(0, 1, 2, 16, 5), x.peek(0, 1, 0, 16, 5), x.peek(0, 1, 0, -1, 0), x.peek(0, 1, 0, 15, 5), x.peek(0, 1, 0, 15, 0)}, -4, -2, -2, -3, -1);
        Due.row("poke into examples", new long[] {x.poke(0, 1, 2, 16, 5, 1), x.poke(0, 1, 0, 16, 5, 1), x.poke(0, 1, 0, -1, 21, 1), x.poke(0, 1, 0, 15, 21, 1), x.poke(0, 1, 0, 15, 20, 1)}, -4, -2, -2, -3, 0);
        for (int k = 0; k < 2; k++) {
            x = shelved(k == 0);
            Due.row("a level, a text", new long[] {x.peek(0, 0, 0, 16, 0), x.peek(0, 0, 0, 15, 0), x.poke(0, 0, 0, -1, 2, 1), x.poke(0, 0, 0, 0, 2, 1)}, -2, -3, -2, -3);
        }
    }

    private static void withoutTheseComesFirst() {
        Due.sentence("20, 21: Long.MIN_VALUE, NONE without these (even if there is nothing, or no such place)");
        TailRecorder x = with(0, 1);
        Due.all("peek", MIN, x.peek(0, 0, 1, 0, 9), x.peek(0, 0, 1, 16, -1), x.peek(0, 2, 0, 16, 5), x.peek(0, 0, 32, 16, 5), x.peek(1, 0, 0, 16, 5), x.peek(0, 0, 0, 16, 9));
        Due.all("poke", -1, x.poke(0, 0, 1, 0, 0, 1), x.poke(0, 0, 1, 16, 9, 1), x.poke(0, 2, 0, 16, 5, 1), x.poke(0, 0, 32, 16, 5, 1), x.poke(1, 0, 0, 16, 5, 1), x.poke(0, 0, 1, 16, 5, 101),
            x.poke(0, 0, 0, 16, 5, -1), x.poke(0, 0, 0, 0, 5, 101));
    }

    private static void peekedPlaces() {
        Due.sentence("the PLACE is not 0 to 15 (-2)");
        TailRecorder x = ofKind(2);
        int[] none = {-1, 16, 17, 32, 255, -16, Integer.MIN_VALUE, Integer.MAX_VALUE};
        for (int place : none) Due.row("place " + place, new long[] {x.peek(0, 0, 0, place, 2), x.poke(0, 0, 0, place, 2, 9)}, -2, -2);
        for (int place = 0; place < 16; place++) Due.row("place " + place, new long[] {x.poke(0, 0, 0, place, 2, place + 1), x.peek(0, 0, 0, place, 2), x.at(0, place)}, 0, place + 1, place + 1);
        Due.due("all of them", x.total(0), 16 * 17 / 2);
    }

    private static void peekedHows() {
        Due.sentence("20: HOW 0 to 8; Long.MIN_VALUE without these");
        TailRecorder x = ofKind(2);
        Due.row("peek", new long[] {x.peek(0, 0, 0, 0, -1), x.peek(0, 0, 0, 0, 0), x.peek(0, 0, 0, 0, 8), x.peek(0, 0, 0, 0, 9), x.peek(0, 0, 0, 0, 11), x.peek(0, 0, 0, 0, Integer.MIN_VALUE),
            x.peek(0, 0, 0, 0, Integer.MAX_VALUE), x.peek(0, 0, 0, 0, 32), x.peek(0, 0, 0, 0, 34)}, MIN, 100, d(100), MIN, MIN, MIN, MIN, MIN, MIN);
    }

    private static void peekedWhats() {
        Due.sentence("20: what 0: at a PAGE, 1: at the row of EXAMPLES, NAMES beside it; Long.MIN_VALUE without these");
        TailRecorder x = ofKind(2);
        x.example(0, 0, false, 8);
        Due.row("peek", new long[] {x.peek(0, -1, 0, 0, 0), x.peek(0, 0, 0, 0, 0), x.peek(0, 1, 0, 0, 0), x.peek(0, 2, 0, 0, 0), x.peek(0, Integer.MIN_VALUE, 0, 0, 0), x.peek(0, Integer.MAX_VALUE, 0, 0, 0)},
            MIN, 100, 8, MIN, MIN, MIN);
    }

    private static void peekedPages() {
        Due.sentence("20: PEEK at a PAGE; Long.MIN_VALUE without these");
        TailRecorder x = ofKind(2);
        Due.row("peek", new long[] {x.peek(0, 0, -1, 0, 0), x.peek(0, 0, 0, 0, 0), x.peek(0, 0, 31, 0, 0), x.peek(0, 0, 32, 0, 0), x.peek(0, 0, 270, 0, 0), x.peek(0, 0, 271, 0, 0),
            x.peek(0, 0, Integer.MIN_VALUE, 0, 0), x.peek(0, 0, Integer.MAX_VALUE, 0, 0), x.peek(0, 1, -1, 0, 0), x.peek(0, 1, 31, 0, 0), x.peek(0, 1, 32, 0, 0)},
            MIN, 100, -4, MIN, MIN, MIN, MIN, MIN, MIN, -4, MIN);
    }

    private static long[] peeks(TailRecorder x, int what, int page, int place) {
        long[] all = new long[9];
        for (int how = 0; how <= 8; how++) all[how] = x.peek(0, what, page, place, how);
        return all;
    }

    /** Each how of 0 to 8, by kind: what there is or, where it is not right, -3. */
    private static void peekedRows() {
        Due.sentence("a row of booleans gives booleans alone");
        Due.row("1", peeks(ofKind(1), 0, 0, 0), 1, 1, -3, -3, -3, -3, -3, -3, -3);
        Due.row("0", peeks(ofKind(1), 0, 0, 1), 0, 0, -3, -3, -3, -3, -3, -3, -3);
        Due.sentence("of bytes 2, 3, 5, 6, 7, 8");
        Due.row("100", peeks(ofKind(2), 0, 0, 0), 100, -3, 100, 100, -3, 100, 100, f(100), d(100));
        Due.row("0", peeks(ofKind(2), 0, 0, 1), 0, -3, 0, 0, -3, 0, 0, 0, 0);
        Due.sentence("of shorts 3, 5, 6, 7, 8");
        Due.row("300", peeks(ofKind(3), 0, 0, 0), 300, -3, -3, 300, -3, 300, 300, f(300), d(300));
        Due.row("0", peeks(ofKind(3), 0, 0, 1), 0, -3, -3, 0, -3, 0, 0, 0, 0);
        Due.sentence("of chars 4, 5, 6, 7, 8");
        Due.row("40000", peeks(ofKind(4), 0, 0, 0), 40000, -3, -3, -3, 40000, 40000, 40000, f(40000), d(40000));
        Due.row("0", peeks(ofKind(4), 0, 0, 1), 0, -3, -3, -3, 0, 0, 0, 0, 0);
        Due.sentence("of ints 5, 6, 7, 8");
        Due.row("70000", peeks(ofKind(5), 0, 0, 0), 70000, -3, -3, -3, -3, 70000, 70000, f(70000), d(70000));
        Due.row("0", peeks(ofKind(5), 0, 0, 1), 0, -3, -3, -3, -3, 0, 0, 0, 0);
        Due.sentence("of longs 6, 7, 8");
        Due.row("5000000000", peeks(ofKind(6), 0, 0, 0), 5000000000L, -3, -3, -3, -3, -3, 5000000000L, f(5000000000f), d(5000000000d));
        Due.row("0", peeks(ofKind(6), 0, 0, 1), 0, -3, -3, -3, -3, -3, 0, 0, 0);
        Due.sentence("of floats 7, 8");
        Due.row("1.5", peeks(ofKind(7), 0, 0, 0), f(1.5f), -3, -3, -3, -3, -3, -3, f(1.5f), d(1.5));
        Due.row("0", peeks(ofKind(7), 0, 0, 1), 0, -3, -3, -3, -3, -3, -3, 0, 0);
        Due.sentence("of doubles 8");
        Due.row("65536.0625", peeks(ofKind(8), 0, 0, 0), d(65536.0625), -3, -3, -3, -3, -3, -3, -3, d(65536.0625));
        Due.row("0", peeks(ofKind(8), 0, 0, 1), 0, -3, -3, -3, -3, -3, -3, -3, 0);
    }

    private static void peekedLevelsAndTexts() {
        Due.sentence("LEVEL, TEXT none");
        Due.all("a level", -3, peeks(shelved(true), 0, 0, 0));
        Due.all("a level, last place", -3, peeks(shelved(true), 0, 0, 15));
        Due.all("a text", -3, peeks(shelved(false), 0, 0, 0));
        Due.all("a text, last place", -3, peeks(shelved(false), 0, 0, 15));
    }

    private static void peekedExamples() {
        Due.sentence("a row of EXAMPLES, of NAMES none but (rows) 0; tells its number, NONE if there is none there");
        Due.row("an example", peeks(marked(), 1, 0, 3), 42, -3, -3, -3, -3, -3, -3, -3, -3);
        Due.row("none there", peeks(marked(), 1, 0, 4), -1, -3, -3, -3, -3, -3, -3, -3, -3);
        Due.row("a name", peeks(marked(), 1, 1, 4), 7, -3, -3, -3, -3, -3, -3, -3, -3);
        Due.row("none there", peeks(marked(), 1, 1, 15), -1, -3, -3, -3, -3, -3, -3, -3, -3);
        Due.all("none if there is no such row", -4, peeks(marked(), 1, 2, 0));
        TailRecorder x = marked();
        Due.row("the number 0 is one", new long[] {x.example(0, 5, false, 0), x.peek(0, 1, 0, 5, 0), x.peek(0, 1, 0, 6, 0)}, 0, 0, -1);
    }

    private static void toldNumbers() {
        Due.sentence("what is told: the number; of 7 and 8, and of 0 of floats and doubles, floatToIntBits, doubleToLongBits of it");
        long[] counts = {2, 3, 127, 128, 255, 32767, 32768, 65535, 65536, 16777215, 16777216, 2147483647L, 2147483648L, 1L << 40, MOST};
        for (long u : counts) {
            TailRecorder x = with(0, u);
            Due.row("counts of " + u, new long[] {x.peek(0, 0, 0, 0, 0), x.peek(0, 0, 0, 0, 7), x.peek(0, 0, 0, 0, 8)}, u, f(u), d(u));
        }
        long[] weights = {1, 2, 3, 8, 15, 16, 17, 31, 1048575, 1048576, 1048577, 1048592, 1L << 40, MOST - 1, MOST};
        for (long u : weights) {
            TailRecorder x = with(1, u);
            boolean floats = u <= 1048576;
            Due.row("weights of " + u + " sixteenths", new long[] {x.peek(0, 0, 0, 0, 0), x.peek(0, 0, 0, 0, 7), x.peek(0, 0, 0, 0, 8)},
                floats ? f(u / 16f) : d(u / 16d), floats ? f(u / 16f) : -3, d(u / 16d));
        }
    }

    private static void toldFloatsRounded() {
        Due.sentence("float (of ints and longs that a float has no room for: to the nearest, of two the even one)");
        long[] units = {
            16777217, 16777218, 16777219, 33554431, 33554433, 33554434, 33554435, 33554437, 33554438, 33554439, 2147483583, 2147483584, 2147483585, 2147483646, (1L << 40) - 1,
            (1L << 40) - (1L << 15), (1L << 40) - (1L << 15) - 1, (1L << 39) + (1L << 15), (1L << 39) + (1L << 15) + 1, (1L << 39) + (1L << 15) - 1, (1L << 39) + (3L << 15), MOST - 1, 999999999999999L};
        for (long u : units) {
            TailRecorder x = with(0, u);
            Due.row("of " + u, new long[] {x.peek(0, 0, 0, 0, 7), x.peek(0, 0, 0, 0, 8)}, f(u), d(u));
        }
    }

    private static void pokedHows() {
        Due.sentence("21: HOW 1 to 8, 11 to 21; NONE without these");
        for (int how = -2; how < 40; how++) {
            boolean is = how >= 1 && how <= 8 || how >= 11 && how <= 21;
            Due.due("poke by " + how, ofKind(8).poke(0, 0, 0, 0, how, 1), !is ? -1 : how >= 2 && how <= 8 || how >= 12 && how <= 18 ? 0 : -3);
        }
        Due.row("poke", new long[] {ofKind(2).poke(0, 0, 0, 0, Integer.MIN_VALUE, 1), ofKind(2).poke(0, 0, 0, 0, Integer.MAX_VALUE, 1)}, -1, -1);
    }

    private static void pokedNumbers() {
        Due.sentence("21: w 0 to 100; NONE without these");
        TailRecorder x = ofKind(2);
        Due.row("poke", new long[] {x.poke(0, 0, 0, 1, 2, -1), x.at(0, 1), x.poke(0, 0, 0, 1, 2, 101), x.at(0, 1), x.poke(0, 0, 0, 1, 2, 100), x.at(0, 1), x.poke(0, 0, 0, 1, 2, 0), x.at(0, 1),
            x.poke(0, 0, 0, 1, 2, Integer.MIN_VALUE), x.poke(0, 0, 0, 1, 2, Integer.MAX_VALUE), x.poke(0, 0, 0, 1, 2, 256), x.at(0, 1), x.count(4)}, -1, 0, -1, 0, 0, 100, 0, 0, -1, -1, -1, 0, 5);
        x = marked();
        Due.row("into examples, and nothing at all", new long[] {
            x.poke(0, 1, 0, 1, 20, -1), x.poke(0, 1, 0, 1, 20, 101), x.peek(0, 1, 0, 1, 0), x.poke(0, 1, 0, 1, 20, 100), x.peek(0, 1, 0, 1, 0), x.poke(0, 1, 0, 1, 20, 0), x.peek(0, 1, 0, 1, 0),
            x.poke(0, 1, 0, 1, 19, -1), x.poke(0, 1, 0, 1, 19, 101), x.peek(0, 1, 0, 1, 0), x.poke(0, 1, 0, 1, 19, 100), x.peek(0, 1, 0, 1, 0)}, -1, -1, -1, 0, 100, 0, 0, -1, -1, 0, 0, -1);
        x = marked();
        Due.row("into names", new long[] {x.poke(0, 1, 1, 0, 21, 101), x.poke(0, 1, 1, 0, 21, -1), x.peek(0, 1, 1, 0, 0), x.poke(0, 1, 1, 0, 21, 100), x.peek(0, 1, 1, 0, 0)}, -1, -1, -1, 0, 100);
    }

    private static void pokedWhats() {
        Due.sentence("21: what 0: a PAGE, 1: the row beside it; NONE without these");
        TailRecorder x = ofKind(2);
        x.example(0, 0, false, 8);
        Due.row("poke", new long[] {x.poke(0, -1, 0, 0, 2, 1), x.poke(0, 2, 0, 0, 2, 1), x.poke(0, 2, 0, 0, 20, 1), x.at(0, 0), x.peek(0, 1, 0, 0, 0), x.poke(0, 0, 0, 0, 2, 1), x.poke(0, 1, 0, 0, 20, 2),
            x.at(0, 0), x.peek(0, 1, 0, 0, 0)}, -1, -1, -1, 100, 8, 0, 0, 1, 2);
    }

    private static void pokedPages() {
        Due.sentence("21: POKE into a PAGE; NONE without these");
        TailRecorder x = ofKind(2);
        x.record(0, 1000, 2, 0);
        Due.row("poke", new long[] {x.poke(0, 0, -1, 0, 2, 1), x.poke(0, 0, 0, 0, 2, 1), x.poke(0, 0, 31, 10, 2, 1), x.poke(0, 0, 32, 0, 2, 1), x.poke(0, 0, 271, 0, 2, 1),
            x.poke(0, 0, Integer.MIN_VALUE, 0, 2, 1), x.poke(0, 0, Integer.MAX_VALUE, 0, 2, 1), x.at(0, 1000), x.poke(0, 0, 30, 0, 2, 1)}, -1, 0, 0, -1, -1, -1, -1, 1, -4);
    }

    /** By each how of 1 to 21, each into a page made anew. */
    private static long[] pokes(int kind, int w) {
        long[] all = new long[21];
        for (int how = 1; how <= 21; how++) all[how - 1] = ofKind(kind).poke(0, 0, 0, 1, how, w);
        return all;
    }

    private static void pokedRows() {
        int[] numbers = {0, 1, 100};
        for (int w : numbers) {
            Due.sentence("booleans 1 alone; 11 to 18: the same, as things");
            Due.row("w " + w, pokes(1, w), 0, -3, -3, -3, -3, -3, -3, -3, -1, -1, 0, -3, -3, -3, -3, -3, -3, -3, -3, -3, -3);
            Due.sentence("bytes 2");
            Due.row("w " + w, pokes(2, w), -3, 0, -3, -3, -3, -3, -3, -3, -1, -1, -3, 0, -3, -3, -3, -3, -3, -3, -3, -3, -3);
            Due.sentence("shorts 2, 3");
            Due.row("w " + w, pokes(3, w), -3, 0, 0, -3, -3, -3, -3, -3, -1, -1, -3, 0, 0, -3, -3, -3, -3, -3, -3, -3, -3);
            Due.sentence("chars 4");
            Due.row("w " + w, pokes(4, w), -3, -3, -3, 0, -3, -3, -3, -3, -1, -1, -3, -3, -3, 0, -3, -3, -3, -3, -3, -3, -3);
            Due.sentence("ints 2 to 5");
            Due.row("w " + w, pokes(5, w), -3, 0, 0, 0, 0, -3, -3, -3, -1, -1, -3, 0, 0, 0, 0, -3, -3, -3, -3, -3, -3);
            Due.sentence("longs 2 to 6");
            Due.row("w " + w, pokes(6, w), -3, 0, 0, 0, 0, 0, -3, -3, -1, -1, -3, 0, 0, 0, 0, 0, -3, -3, -3, -3, -3);
            Due.sentence("floats 2 to 7");
            Due.row("w " + w, pokes(7, w), -3, 0, 0, 0, 0, 0, 0, -3, -1, -1, -3, 0, 0, 0, 0, 0, 0, -3, -3, -3, -3);
            Due.sentence("doubles 2 to 8");
            Due.row("w " + w, pokes(8, w), -3, 0, 0, 0, 0, 0, 0, 0, -1, -1, -3, 0, 0, 0, 0, 0, 0, 0, -3, -3, -3);
        }
    }

    private static void pokedBooleans() {
        Due.sentence("of 1: whether it is above 0");
        int[] hows = {1, 11};
        for (int how : hows) {
            TailRecorder x = ofKind(1);
            Due.row("by " + how, new long[] {x.poke(0, 0, 0, 1, how, 1), x.at(0, 1), x.poke(0, 0, 0, 1, how, 0), x.at(0, 1), x.poke(0, 0, 0, 1, how, 2), x.at(0, 1), x.poke(0, 0, 0, 1, how, 100),
                x.at(0, 1), x.kind(0, 0), x.peek(0, 0, 0, 1, 1)}, 0, 1, 0, 0, 0, 1, 0, 1, 1, 1);
        }
    }

    private static void pokedNumbersOfEachKind() {
        Due.sentence("a number w of that KIND, into a row of that KIND or of a wider one");
        for (int kind = 2; kind <= 8; kind++) {
            for (int how = kind == 4 ? 4 : 2; how <= kind; how++) {
                if (kind == 3 && how > 3 || kind == 4 && how != 4) continue;
                for (int things = 0; things <= 10; things += 10) {
                    TailRecorder x = ofKind(kind);
                    long unit = kind < 7 ? 1 : 16;
                    Due.row("kind " + kind + " by " + (how + things), new long[] {
                        x.poke(0, 0, 0, 1, how + things, 100), x.at(0, 1), x.kind(0, 0), x.poke(0, 0, 0, 0, how + things, 1), x.at(0, 0), x.poke(0, 0, 0, 2, how + things, 0), x.at(0, 2), x.kind(0, 0),
                        x.total(0), x.peek(0, 0, 0, 1, 8)}, 0, 100 * unit, kind, 0, unit, 0, 0, kind, 101 * unit, d(100));
                }
            }
        }
    }

    private static void pokedLevelsAndTexts() {
        Due.sentence("POKE into a row (of LEVEL and TEXT the KIND is not right)");
        for (int how = 1; how <= 21; how++) {
            if (how == 9 || how == 10) continue;
            TailRecorder level = shelved(true);
            TailRecorder text = shelved(false);
            Due.row("by " + how, new long[] {level.poke(0, 0, 0, 0, how, 5), text.poke(0, 0, 0, 0, how, 5), level.kind(0, 0), text.kind(0, 0), level.total(0), text.total(0), level.count(4)},
                -3, -3, 9, 10, 48, 49, 4);
        }
    }

    private static void pokedExamplesAndNames() {
        Due.sentence("20 an EXAMPLE (w), 21 a NAME (w): each into rows of its own alone");
        for (int how = 1; how <= 21; how++) {
            if (how == 9 || how == 10) continue;
            TailRecorder x = marked();
            Due.row("by " + how, new long[] {x.poke(0, 1, 0, 3, how, 9), x.poke(0, 1, 1, 4, how, 9), x.poke(0, 1, 2, 0, how, 9), x.peek(0, 1, 0, 3, 0), x.peek(0, 1, 1, 4, 0)},
                how == 19 || how == 20 ? 0 : -3, how == 19 || how == 21 ? 0 : -3, -4, how == 20 ? 9 : how == 19 ? -1 : 42, how == 21 ? 9 : how == 19 ? -1 : 7);
        }
    }

    private static void pokedNothingAtAll() {
        Due.sentence("19: nothing at all (null): into rows of EXAMPLES, NAMES alone");
        for (int kind = 1; kind <= 8; kind++) Due.due("into a row of kind " + kind, ofKind(kind).poke(0, 0, 0, 0, 19, 0), -3);
        TailRecorder x = marked();
        Due.row("into a row of examples", new long[] {x.poke(0, 1, 0, 3, 19, 100), x.peek(0, 1, 0, 3, 0), x.examples(0), x.poke(0, 1, 0, 3, 19, 0), x.count(4)}, 0, -1, 1, 0, 7);
        Due.row("the row is there, and of examples, still", new long[] {x.example(0, 3, true, 1), x.poke(0, 1, 0, 3, 21, 1), x.poke(0, 1, 0, 3, 20, 1), x.examples(0)}, -3, -3, 0, 2);
    }

    /** Slot 506 is the last one of 1000 by two digits: place 10 of page 31. */
    private static void placesBeyondTheSlots() {
        Due.sentence("what PLACES beyond the SLOTS get counts for nothing but here, in KINDS and when the PAGE is WRITTEN or SHELVED");
        TailRecorder x = with(0);
        x.record(0, 1000, 2, 0);
        Due.row("poke, peek", new long[] {x.poke(0, 0, 31, 11, 2, 100), x.peek(0, 0, 31, 11, 2), x.poke(0, 0, 31, 15, 2, 7), x.peek(0, 0, 31, 15, 0), x.peek(0, 0, 31, 14, 0)}, 0, 100, 0, 7, 0);
        Due.row("for nothing", new long[] {x.total(0), x.below(0, 1000), x.rank(0, 100000), x.about(0, 0), x.about(0, 1), x.about(0, 2), x.setting(0, 4), x.pack(0), x.halve(0), x.at(0, 1000)},
            2, 0, 1000, 1000, 1000, 1001, 1, 5 + 2 + 1, 1, 1);
        Due.row("halving leaves them", new long[] {x.peek(0, 0, 31, 11, 2), x.peek(0, 0, 31, 15, 2)}, 100, 7);
        x.make(1, 0, 2, 1100);
        x.make(2, 0, 2, 1000);
        Due.row("adding and taking off leave them", new long[] {x.add(1, 0), x.total(1), x.add(0, 0), x.peek(0, 0, 31, 11, 2), x.takeOff(0, 0), x.peek(0, 0, 31, 11, 2), x.same(0, 2)}, 1, 1, 2, 100, 0, 100, 1);
        Due.row("an empty one, but for them", new long[] {x.rank(0, 0), x.about(0, 0), x.pack(0), x.setting(0, 4), x.add(2, 0)}, -2, -2, 5, 0, 0);
        Due.row("the last slot and the place behind it", new long[] {x.poke(0, 0, 31, 10, 2, 3), x.total(0), x.poke(0, 0, 31, 11, 2, 3), x.total(0)}, 0, 3, 0, 3);
    }

    private static void whatCameFirst() {
        Due.sentence("a row of 16 EXAMPLES, or of 16 NAMES (by what came first to one of its SLOTS)");
        TailRecorder x = with(0);
        Due.row("an example first", new long[] {x.example(0, 15, false, 1), x.example(0, 0, true, 1), x.example(0, 15, true, 1), x.example(0, 0, false, 1), x.examples(0)}, 0, -3, -3, 0, 2);
        Due.row("a name first, on the next page", new long[] {x.example(0, 16, true, 1), x.example(0, 31, false, 1), x.example(0, 31, true, 1), x.examples(0)}, 0, -3, 0, 4);
        Due.row("undone, another comes first", new long[] {x.example(0, 500, true, 1), x.undo(), x.example(0, 500, false, 1), x.example(0, 500, true, 1)}, 0, 7, 0, -3);
    }

    private static void examplesOfValues() {
        Due.sentence("22: of a value (0 to HIGHEST); an EXAMPLE of a value: its SLOT's; NONE without these");
        TailRecorder x = new TailRecorder();
        x.make(0, 0, 1, 1000);
        Due.row("example", new long[] {
            x.example(0, -1, false, 1), x.example(0, MIN, false, 1), x.example(0, 1001, false, 1), x.example(0, 1023, false, 1), x.example(0, Long.MAX_VALUE, false, 1), x.examples(0), x.count(4),
            x.example(0, 0, false, 1), x.example(0, 1000, false, 2), x.examples(0), x.peek(0, 1, 0, 0, 0), x.peek(0, 1, 6, 15, 0)}, -1, -1, -1, -1, -1, 0, 1, 0, 0, 2, 1, 2);
        Due.row("of one slot", new long[] {x.example(0, 992, false, 3), x.examples(0), x.peek(0, 1, 6, 15, 0), x.example(0, 991, false, 4), x.examples(0)}, 0, 2, 3, 0, 3);
        Due.row("without that recorder", new long[] {x.example(1, 5, false, 1), x.example(-1, 5, false, 1), x.example(4, 5, false, 1)}, -1, -1, -1);
    }

    private static void examplesHave0To100() {
        Due.sentence("22: w (0 to 100); NONE, and nothing happens, without these");
        for (int named = 0; named < 2; named++) {
            TailRecorder x = with(0);
            boolean n = named == 1;
            Due.row("example", new long[] {
                x.example(0, 5, n, -1), x.example(0, 5, n, 101), x.example(0, 5, n, Integer.MIN_VALUE), x.example(0, 5, n, Integer.MAX_VALUE), x.examples(0), x.peek(0, 1, 0, 5, 0), x.example(0, 5, n, 0),
                x.peek(0, 1, 0, 5, 0), x.example(0, 5, n, 100), x.peek(0, 1, 0, 5, 0), x.example(0, 6, n, 101), x.peek(0, 1, 0, 6, 0), x.examples(0)}, -1, -1, -1, -1, 0, -4, 0, 0, 0, 100, -1, -1, 1);
            Due.row("NONE, though the row is of the other ones", new long[] {x.example(0, 5, !n, 101), x.example(0, 5, !n, 100)}, -1, -3);
        }
    }

    private static void examplesAreCounted() {
        Due.sentence("23: how many PLACES of rows of EXAMPLES, NAMES have something; NONE without it");
        TailRecorder x = with(0);
        Due.row("none, one, two", new long[] {x.examples(0), x.example(0, 5, false, 0), x.examples(0), x.example(0, 1000, true, 0), x.examples(0), x.example(0, 5, false, 1), x.examples(0)}, 0, 0, 1, 0, 2, 0, 2);
        Due.row("a place beyond the slots is a place (NOTES.md)", new long[] {x.poke(0, 1, 31, 15, 21, 0), x.examples(0), x.poke(0, 1, 31, 10, 19, 0), x.examples(0)}, 0, 3, 0, 2);
        Due.row("a number of the page is none", new long[] {x.record(0, 6, 1, 0), x.examples(0), x.examples(1), x.examples(-1), x.examples(4)}, 1, 2, -1, -1, -1);
        Due.row("cleared, made, unpacked: none", new long[] {x.make(1, 0, 2, 1000), x.example(1, 5, true, 1), x.swap(), x.examples(1), x.examples(0), x.make(0, 0, 2, 1000), x.examples(0)}, 507, 0, 1, 0, 2, 507, 0);
        x.example(0, 5, true, 1);
        Due.row("unpacked", new long[] {x.examples(0), x.pack(1), x.unpack(0), x.examples(0), x.peek(0, 1, 0, 5, 0)}, 1, 5, 507, 0, -4);
    }
}
