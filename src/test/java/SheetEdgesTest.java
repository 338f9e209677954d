/** Promises 40 to 46: a test for each sentence that names a bound. */
public final class SheetEdgesTest {
    private static final int MIN = Integer.MIN_VALUE;
    private static final int MAX = Integer.MAX_VALUE;

    public static void main(String[] args) throws Exception {
        Due.each(SheetEdgesTest.class);
    }

    // ---- 40

    private static void holdSpots() {
        Twin.refuses(Twin::rich, Due.BEYOND,
            x -> x.hold(-1, 0), x -> x.hold(10, 0), x -> x.hold(MIN, 0), x -> x.hold(MAX, 0),
            x -> x.hold(-1, -1), x -> x.hold(10, -1));
        PennyLedge x = Due.shelf("coin");
        for (int spot = 0; spot < 10; spot++) {
            Due.is("hold", x.hold(spot, 0), 1);
            Due.is("so many", x.count(7), spot + 1);
        }
        Due.is("nothing in the first", x.hold(0, -1), 1);
        Due.is("nothing in the last", x.hold(9, -1), 1);
        Due.is("eight left", x.count(7), 8);
    }

    private static void holdCoins() {
        Twin.refuses(Twin::rich, Due.BEYOND,
            x -> x.hold(2, -2), x -> x.hold(2, 14), x -> x.hold(2, MIN), x -> x.hold(2, MAX), x -> x.hold(1, 14));
        PennyLedge x = Twin.rich();
        Due.is("the first", x.hold(2, 0), 1);
        Due.is("the last", x.hold(2, 13), 1);
        Due.is("that", x.as(2, 0), 13);
        Due.is("nothing", x.hold(2, -1), 1);
        Due.is("none", x.as(2, 0), Due.MISSING);
        Due.is("nothing where nothing was", x.hold(2, -1), 1);
        Due.is("without any coin", new PennyLedge().hold(0, 0), Due.BEYOND);
    }

    // ---- 41

    private static void asSpots() {
        Twin.refuses(Twin::rich, Due.BEYOND,
            x -> x.as(-1, 0), x -> x.as(10, 0), x -> x.as(MIN, 0), x -> x.as(MAX, 0));
        Twin.leaves(Twin::rich, 3, x -> x.as(0, 0));
        Twin.leaves(Twin::rich, 6, x -> x.as(9, 0));
    }

    private static void asKinds() {
        Twin.refuses(Twin::rich, Due.BEYOND,
            x -> x.as(2, -1), x -> x.as(2, 7), x -> x.as(2, MIN), x -> x.as(2, MAX));
        PennyLedge x = Due.shelf("coin;lead");
        x.hold(0, 0);
        x.hold(1, 1);
        Due.is("kind 0", x.as(0, 0), 0);
        Due.is("kind 6", x.as(1, 6), 1);
    }

    private static void asNothing() {
        Twin.refuses(Twin::rich, Due.MISSING, x -> x.as(1, 0), x -> x.as(8, 6));
    }

    /** "KIND: it isn't of that kind, nor of one under it": each as each. */
    private static void asEachKind() {
        String[] above = {"0", "01", "02", "013", "024", "05", "056"};
        for (int kind = 0; kind < 7; kind++) {
            PennyLedge x = new PennyLedge();
            x.coin(0);
            x.coin(kind);
            x.hold(4, 1);
            for (int asked = 0; asked < 7; asked++) {
                boolean fits = above[kind].indexOf('0' + asked) >= 0;
                Due.is("kind " + kind + " as " + asked, x.as(4, asked), fits ? 1 : Due.KIND);
            }
        }
        Twin.refuses(Twin::rich, Due.KIND, x -> x.as(2, 4), x -> x.as(2, 1), x -> x.as(0, 2));
    }

    private static void asInOrder() {
        Twin.refuses(Twin::rich, Due.BEYOND, x -> x.as(1, 7), x -> x.as(1, -1));
    }

    // ---- 42

    private static void sheetNumbersOfSheets() {
        Twin.refuses(Twin::rich, Due.BEYOND,
            x -> x.sheet(-1, 8, 1), x -> x.sheet(4, 8, 1), x -> x.sheet(MIN, 8, 1), x -> x.sheet(MAX, 8, 1));
        PennyLedge x = new PennyLedge();
        for (int s = 0; s < 4; s++) {
            Due.is("sheet " + s, x.sheet(s, 8, s + 1), s + 1);
        }
        for (int s = 0; s < 4; s++) {
            Due.is("its last", x.write(s, s, 0), 1);
            Due.is("behind it", x.write(s, s + 1, 0), Due.BEYOND);
        }
    }

    private static void sheetBits() {
        Twin.refuses(Twin::rich, Due.BEYOND, x -> x.sheet(0, -1, 1), x -> x.sheet(0, 1, 1), x -> x.sheet(0, 7, 1),
            x -> x.sheet(0, 9, 1), x -> x.sheet(0, 15, 1), x -> x.sheet(0, 17, 1), x -> x.sheet(0, 24, 1),
            x -> x.sheet(0, 31, 1), x -> x.sheet(0, 33, 1), x -> x.sheet(0, 64, 1), x -> x.sheet(0, -8, 1),
            x -> x.sheet(0, MIN, 1), x -> x.sheet(0, MAX, 1));
        int[] bits = {8, 16, 32};
        for (int b : bits) {
            Due.is("bits " + b, new PennyLedge().sheet(0, b, 3), 3);
        }
    }

    private static void sheetMissing() {
        PennyLedge x = Twin.rich();
        Due.is("0 if it is MISSING", x.sheet(0, 0, 40), 0);
        Due.is("MISSING", x.load(0), Due.MISSING);
        Due.is("again", x.sheet(0, 0, 0), 0);
        Due.is("one that was", x.sheet(3, 0, 1), 0);
        Due.is("the others stay", x.load(2), 1);
    }

    private static void sheetSize() {
        Twin.refuses(Twin::rich, Due.SIZE, x -> x.sheet(0, 8, -1), x -> x.sheet(0, 16, MIN), x -> x.sheet(0, 32, -40));
        Twin.refuses(Twin::rich, Due.SIZE, x -> x.sheet(0, 0, -1), x -> x.sheet(3, 0, MIN));
    }

    private static void sheetAbove40() {
        Twin.refuses(Twin::rich, Due.BEYOND, x -> x.sheet(0, 8, 41), x -> x.sheet(0, 16, 41), x -> x.sheet(0, 32, MAX));
        Twin.refuses(Twin::rich, Due.BEYOND, x -> x.sheet(0, 0, 41), x -> x.sheet(3, 0, MAX));
        PennyLedge x = Twin.rich();
        Due.is("40", x.sheet(0, 8, 40), 40);
        Due.is("number 39", x.write(0, 39, 1), 1);
        Due.is("0", x.sheet(0, 8, 0), 0);
        Due.is("no number 0", x.write(0, 0, 1), Due.BEYOND);
        Due.is("not MISSING", x.load(0), 0);
    }

    private static void sheetInOrder() {
        Twin.refuses(Twin::rich, Due.BEYOND, x -> x.sheet(4, 8, -1), x -> x.sheet(0, 7, -1), x -> x.sheet(-1, 0, -1));
    }

    /** "n numbers, all 0": also those that were others before, with more and with other bits. */
    private static void sheetAllNought() {
        PennyLedge x = new PennyLedge();
        x.sheet(0, 32, 40);
        for (int i = 0; i < 40; i++) {
            x.write(0, i, -1);
        }
        x.sheet(0, 8, 2);
        x.sheet(0, 16, 40);
        Due.is("none goes over, as told", x.judge(0), 0);
    }

    // ---- 43

    private static void writeSheets() {
        Twin.refuses(Twin::rich, Due.BEYOND,
            x -> x.write(-1, 0, 1), x -> x.write(4, 0, 1), x -> x.write(MIN, 0, 1), x -> x.write(MAX, 0, 1));
        Twin.refuses(Twin::rich, Due.MISSING, x -> x.write(3, 0, 1), x -> x.write(3, -1, 1), x -> x.write(3, 40, 1));
    }

    private static void writeNumbers() {
        Twin.refuses(Twin::rich, Due.BEYOND, x -> x.write(0, -1, 1), x -> x.write(0, 3, 1), x -> x.write(1, 2, 1),
            x -> x.write(2, 1, 1), x -> x.write(0, MIN, 1), x -> x.write(0, MAX, 1));
        PennyLedge x = Twin.rich();
        Due.is("the first", x.write(0, 0, 5), 1);
        Due.is("the last", x.write(0, 2, 5), 1);
        x.sheet(3, 8, 0);
        Due.is("of none", x.write(3, 0, 5), Due.BEYOND);
    }

    /** "its lowest bits", "told with their sign": a column is loaded only by a number that is 0 to 6. */
    private static void writeLowestBits() {
        int[] bits = {8, 16, 32};
        int[] values = {3, 255, 256 + 3, 65535, 65536 + 3, -1, -253, -65533, 128, 32768, MIN, MAX, (1 << 24) + 3, 1 << 8, 1 << 16};
        int[][] columns = {{3, -1, 3, -1, 3, -1, 3, 3, -128, 0, 0, -1, 3, 0, 0},
            {3, 255, 259, -1, 3, -1, -253, 3, 128, -32768, 0, -1, 3, 256, 0},
            {3, 255, 259, 65535, 65539, -1, -253, -65533, 128, 32768, MIN, MAX, (1 << 24) + 3, 256, 65536}};
        for (int b = 0; b < 3; b++) {
            for (int i = 0; i < values.length; i++) {
                PennyLedge x = Due.shelf("force 0;coin");
                x.sheet(0, bits[b], 1);
                Due.is("write", x.write(0, 0, values[i]), 1);
                int column = columns[b][i];
                boolean is = column >= 0 && column <= 6;
                Due.is(values[i] + " of " + bits[b] + " bits", x.load(0), is ? 1 : 0);
                Due.is(values[i] + " of " + bits[b] + " bits, where", x.of(0, 1), is ? 10 * column : 100);
            }
        }
    }

    /** "of 8 bits 255 is -1": no number of COINS, so that it stays one only if it is told so. */
    private static void writeSigns() {
        PennyLedge x = Due.shelf("force 0", Due.times(3, "coin at 3 5"));
        x.sheet(0, 8, 1);
        x.write(0, 0, 257);
        Due.is("257 is 1", x.judge(0), 0);
        x.write(0, 0, -255);
        Due.is("-255 is 1", x.judge(0), 0);
        x.write(0, 0, 255);
        Due.is("255 is not", x.judge(0), 1);
    }

    // ---- 44

    private static void copySheets() {
        Twin.refuses(Twin::rich, Due.BEYOND,
            x -> x.copy(-1, 0, 1, 0, 1), x -> x.copy(4, 0, 1, 0, 1), x -> x.copy(MIN, 0, 1, 0, 1),
            x -> x.copy(1, 0, -1, 0, 1), x -> x.copy(1, 0, 4, 0, 1), x -> x.copy(1, 0, MAX, 0, 1));
    }

    private static void copyMissing() {
        Twin.refuses(Twin::rich, Due.MISSING, x -> x.copy(3, 0, 0, 0, 1), x -> x.copy(0, 0, 3, 0, 1), x -> x.copy(3, 0, 3, 0, 0));
    }

    private static void copyKind() {
        Twin.refuses(Twin::rich, Due.KIND, x -> x.copy(0, 0, 1, 0, 1), x -> x.copy(1, 0, 2, 0, 1), x -> x.copy(2, 0, 0, 0, 0));
    }

    /** Sheet 3 has 3 numbers of 8 bits, sheet 0 too: 5 0 0 and 4 0 6. */
    private static PennyLedge twoAlike() {
        PennyLedge x = Twin.rich();
        x.sheet(3, 8, 3);
        x.write(3, 0, 5);
        return x;
    }

    private static void copyNotSoMany() {
        Twin.refuses(SheetEdgesTest::twoAlike, Due.BEYOND,
            x -> x.copy(0, 1, 3, 0, 3), x -> x.copy(0, 0, 3, 1, 3), x -> x.copy(0, 0, 3, 0, 4), x -> x.copy(0, 3, 3, 0, 1),
            x -> x.copy(0, 0, 3, 3, 1), x -> x.copy(0, 4, 3, 0, 0), x -> x.copy(0, 0, 3, 4, 0),
            x -> x.copy(0, 0, 3, 0, MAX), x -> x.copy(0, MAX, 3, 0, 1), x -> x.copy(0, 0, 3, MAX, 1),
            x -> x.copy(0, MAX, 3, MAX, MAX), x -> x.copy(0, 2, 3, 0, MAX), x -> x.copy(0, 0, 3, 2, MAX));
    }

    private static void copyBelow0() {
        Twin.refuses(SheetEdgesTest::twoAlike, Due.BEYOND,
            x -> x.copy(0, -1, 3, 0, 1), x -> x.copy(0, 0, 3, -1, 1), x -> x.copy(0, 0, 3, 0, -1), x -> x.copy(0, -1, 3, 0, 0),
            x -> x.copy(0, 0, 3, -1, 0), x -> x.copy(0, MIN, 3, 0, 1), x -> x.copy(0, 0, 3, MIN, 1),
            x -> x.copy(0, 0, 3, 0, MIN), x -> x.copy(0, MIN, 3, MIN, MIN), x -> x.copy(0, 3, 3, 3, -1));
    }

    private static void copyInOrder() {
        Twin.refuses(Twin::rich, Due.BEYOND, x -> x.copy(3, 0, 4, 0, 1), x -> x.copy(-1, 0, 3, 0, 1));
        Twin.refuses(Twin::rich, Due.MISSING, x -> x.copy(3, -1, 0, 0, 1), x -> x.copy(0, 0, 3, 0, 99));
        Twin.refuses(Twin::rich, Due.KIND, x -> x.copy(0, -1, 1, 0, 1), x -> x.copy(0, 0, 1, 0, 99));
    }

    private static void copyNoneAndAll() {
        Twin.leaves(SheetEdgesTest::twoAlike, 0, x -> x.copy(0, 0, 3, 0, 0));
        Twin.leaves(SheetEdgesTest::twoAlike, 0, x -> x.copy(0, 3, 3, 3, 0));
        Twin.leaves(SheetEdgesTest::twoAlike, 3, x -> x.copy(0, 0, 0, 0, 3));
        PennyLedge x = twoAlike();
        Due.is("all", x.copy(0, 0, 3, 0, 3), 3);
        Due.is("they came", x.load(3), 3);
        Due.is("a column of theirs", x.of(10, 1) / 10, 0);
        Due.is("the last", x.of(11, 1) / 10, 6);
        PennyLedge y = twoAlike();
        Due.is("the last onto the first", y.copy(0, 2, 3, 0, 1), 1);
        Due.is("load", y.load(3), 3);
        Due.is("that", y.of(9, 1) / 10, 6);
    }

    /** "(as they all were)": onto themselves, a place up and a place down. */
    private static void copyOntoItself() {
        int[][] due = {{1, 1, 2, 3}, {2, 3, 4, 4}};
        for (int up = 0; up < 2; up++) {
            PennyLedge x = Due.shelf("force 0;coin;coin;coin;coin");
            x.sheet(0, 16, 4);
            for (int i = 0; i < 4; i++) {
                x.write(0, i, i + 1);
            }
            Due.is("three", up == 0 ? x.copy(0, 0, 0, 1, 3) : x.copy(0, 1, 0, 0, 3), 3);
            x.load(0);
            for (int i = 0; i < 4; i++) {
                Due.is("number " + i, x.of(i, 1) / 10, due[up][i]);
            }
        }
    }

    private static void copy40() {
        PennyLedge x = new PennyLedge();
        x.sheet(0, 32, 40);
        x.sheet(1, 32, 40);
        x.write(0, 39, 7);
        Due.is("40", x.copy(0, 0, 1, 0, 40), 40);
        Due.is("the last came", x.judge(1), 40);
        Due.is("41", x.copy(0, 0, 1, 0, 41), Due.BEYOND);
    }

    // ---- 45

    private static void loadSheets() {
        Twin.refuses(Twin::rich, Due.BEYOND, x -> x.load(-1), x -> x.load(4), x -> x.load(MIN), x -> x.load(MAX));
        Twin.refuses(Twin::rich, Due.MISSING, x -> x.load(3));
    }

    /** "It ends at the first that isn't 0 to 6": -1, 0, 6, 7. */
    private static void loadColumns() {
        int[] numbers = {-1, 0, 6, 7, MIN, MAX};
        int[] due = {0, 3, 3, 0, 0, 0};
        for (int i = 0; i < numbers.length; i++) {
            PennyLedge x = Due.shelf("force 0;coin;coin;coin");
            x.sheet(0, 32, 3);
            x.write(0, 0, numbers[i]);
            Due.is("first " + numbers[i], x.load(0), due[i]);
            Due.is("BEAT", x.now(0), due[i]);
            Due.is("DROPPED", x.now(5), due[i]);
        }
        PennyLedge x = Due.shelf("force 0;coin;coin;coin");
        x.sheet(0, 8, 3);
        x.write(0, 1, 7);
        Due.is("the second is 7", x.load(0), 1);
        Due.is("what stands behind it does not come", x.now(4), 6);
    }

    /** "or for which there is no COIN": none, fewer, as many, more. */
    private static void loadWithoutCoins() {
        for (int coins = 0; coins <= 4; coins++) {
            PennyLedge x = new PennyLedge();
            x.sheet(0, 8, 3);
            x.set(0, 0);
            for (int i = 0; i < coins; i++) {
                x.coin(0);
            }
            Due.is("coins " + coins, x.load(0), Math.min(3, coins));
            Due.is("left", Integer.bitCount(x.now(4)), Math.max(0, coins - 3));
        }
    }

    private static void loadEmptyAndFull() {
        PennyLedge x = Due.shelf("force 0");
        for (int i = 0; i < 24; i++) {
            x.coin(2);
        }
        x.sheet(0, 8, 0);
        Due.is("no numbers", x.load(0), 0);
        x.sheet(0, 8, 40);
        Due.is("40 numbers, 24 coins", x.load(0), 24);
        Due.is("BEAT", x.now(0), 24);
    }

    private static void loadAtTheLastBeat() {
        Twin.leaves(Twin.far(9999), 0, x -> x.load(0));
        PennyLedge x = Twin.far(9998).get();
        Due.is("BEAT 9998", x.load(0), 1);
        Due.is("BEAT then", x.now(0), 9999);
        Due.is("no finding", x.status(-1), 0);
        Due.is("BEAT 9997", Twin.far(9997).get().load(0), 2);
        Due.is("BEAT 9996", Twin.far(9996).get().load(0), 3);
    }

    /** "(always the least number)": one that comes back into the HAND ahead of the next call is the least again. */
    private static void loadLeastNumber() {
        PennyLedge x = Due.shelf("force 0;watch at 3 3;coin;coin");
        x.sheet(0, 8, 1);
        x.load(0);
        Due.is("the least", x.of(1, 1), 0);
        x.lift(3, 3);
        x.load(0);
        Due.is("the least again", x.of(0, 1), 1);
        Due.is("not yet", x.of(2, 1), 100);
    }

    // ---- 46

    private static void judgeSheets() {
        Twin.refuses(Twin::rich, Due.BEYOND, x -> x.judge(-1), x -> x.judge(4), x -> x.judge(MIN), x -> x.judge(MAX));
        Twin.refuses(Twin::rich, Due.MISSING, x -> x.judge(3));
        Twin.refuses(Twin.far(9999), Due.MISSING, x -> x.judge(3));
        Twin.refuses(Twin.far(9999), Due.BEYOND, x -> x.judge(4));
    }

    private static PennyLedge judged(int beat, int numbers) {
        PennyLedge x = new PennyLedge();
        Due.toBeat(x, beat);
        x.sheet(0, 8, numbers);
        return x;
    }

    private static void judgeToTheEnd() {
        int[] sizes = {0, 1, 39, 40};
        for (int size : sizes) {
            Due.is("to 9999, size " + size, judged(9999 - size, size).judge(0), 0);
            if (size > 0) {
                Twin.refuses(() -> judged(10000 - size, size), Due.STATE, x -> x.judge(0));
            }
        }
        PennyLedge x = judged(9998, 2);
        x.write(0, 0, 9);
        Due.is("above 9999, though the first isn't", x.judge(0), Due.STATE);
    }

    /** "0 if all are; else 1 and the place of the first that isn't": none, the first, the last of 40. */
    private static void judgePlaces() {
        PennyLedge x = new PennyLedge();
        x.sheet(0, 8, 0);
        Due.is("no numbers", x.judge(0), 0);
        x.sheet(0, 8, 40);
        Due.is("all are", x.judge(0), 0);
        for (int i = 39; i >= 0; i--) {
            x.write(0, i, 1);
            Due.is("number " + i, x.judge(0), i + 1);
        }
        Twin.leaves(Twin::rich, 1, y -> y.judge(0));
        Twin.leaves(() -> judged(0, 40), 0, y -> y.judge(0));
    }

    /** "in the BEATS 1, 2, .. AHEAD": those of each alone. */
    private static void judgeEachBeat() {
        PennyLedge x = Due.shelf("force 0", Due.times(4, "coin at 3 5"), Due.times(3, "coin at 0 5"));
        x.sheet(0, 8, 3);
        int[] due = {2, 1, 0};
        for (int i = 0; i < 3; i++) {
            Due.is("number " + i + " isn't", x.judge(0), due[i] == 0 ? 0 : i + 1);
            x.write(0, i, due[i]);
        }
        Due.is("all are", x.judge(0), 0);
        x.write(0, 1, 3);
        Due.is("not all together", x.judge(0), 2);
    }
}
