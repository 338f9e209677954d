/** Promises 1 to 9: a test for each sentence that names a bound. */
public final class CellEdgesTest {
    private static final int MIN = Integer.MIN_VALUE;
    private static final int MAX = Integer.MAX_VALUE;

    public static void main(String[] args) throws Exception {
        Due.each(CellEdgesTest.class);
    }

    // ---- 1

    private static void newWithoutCoins() {
        PennyLedge x = new PennyLedge();
        Due.is("coins", x.count(1), 0);
        Due.is("coin 0", x.of(0, 0), Due.BEYOND);
        for (int cell = 0; cell < 42; cell++) {
            Due.is("height", x.height(cell / 6, cell % 6), 0);
        }
        for (int what = 2; what <= 4; what++) {
            Due.is("set " + what, x.now(what), 0);
        }
    }

    private static void newTapeIsEmpty() {
        PennyLedge x = new PennyLedge();
        Due.is("bytes", x.count(5), 0);
        Due.is("wipe", x.wipe(), 0);
        Due.is("text", x.text(), -1);
    }

    private static void newKeepsNoImage() {
        PennyLedge x = new PennyLedge();
        Due.is("undo", x.undo(), Due.NONE);
        Due.is("tear", x.tear(), 0);
    }

    private static void newSettings() {
        PennyLedge x = new PennyLedge();
        Due.is("FORCE", x.set(0, 0), 8);
        Due.is("STROKE", x.set(1, 1), 2);
        Due.is("SIDES", x.set(2, 0), 1);
        Due.is("z", x.count(6), 1);
        Due.is("BEAT", x.now(0), 0);
        Due.is("GAIN", x.now(1), 0);
        Due.is("DROPPED", x.now(5), 0);
    }

    private static void newSpotsAndSheets() {
        PennyLedge x = new PennyLedge();
        for (int spot = 0; spot < 10; spot++) {
            Due.is("spot", x.as(spot, 0), Due.MISSING);
        }
        for (int s = 0; s < 4; s++) {
            Due.is("sheet", x.load(s), Due.MISSING);
        }
    }

    // ---- 2

    private static void coinKinds() {
        PennyLedge x = new PennyLedge();
        Due.is("kind 0", x.coin(0), 0);
        Due.is("kind 6", x.coin(6), 1);
        Due.is("its kind", x.of(1, 0), 6);
        Twin.refuses(Twin::rich, Due.BEYOND, y -> y.coin(-1), y -> y.coin(7), y -> y.coin(MIN), y -> y.coin(MAX));
    }

    private static void coinNumbers() {
        PennyLedge x = new PennyLedge();
        for (int i = 0; i < 24; i++) {
            Due.is("number", x.coin(i % 7), i);
            Due.is("in the HAND", x.of(i, 1), 100);
        }
        Due.is("all", x.count(1), 24);
    }

    private static void coinFull() {
        PennyLedge x = Due.shelf(Due.times(23, "coin"));
        Due.is("the 24th", x.coin(0), 23);
        Due.is("a 25th", x.coin(0), Due.FULL);
        Twin.refuses(Twin::crowded, Due.FULL, y -> y.coin(0), y -> y.coin(6));
    }

    private static void coinBeyondAheadOfFull() {
        Twin.refuses(Twin::crowded, Due.BEYOND, y -> y.coin(7), y -> y.coin(-1));
    }

    private static void coinBehindUndo() {
        PennyLedge x = Due.shelf(Due.times(23, "coin"));
        x.image();
        Due.is("the 24th", x.coin(0), 23);
        x.undo();
        Due.is("the 24th anew", x.coin(1), 23);
        Due.is("a 25th", x.coin(0), Due.FULL);
    }

    // ---- 3

    private static void ofCoins() {
        PennyLedge x = Twin.rich();
        Due.is("the first", x.of(0, 0), 2);
        Due.is("the last", x.of(13, 0), 0);
        Twin.refuses(Twin::rich, Due.BEYOND, y -> y.of(-1, 0), y -> y.of(14, 0), y -> y.of(MIN, 0), y -> y.of(MAX, 0));
    }

    private static void ofWhat() {
        PennyLedge x = Due.shelf("crown at 0 0");
        int[] due = {3, 0, 0, 5, 3, 1};
        for (int what = 0; what < 6; what++) {
            Due.is("what " + what, x.of(0, what), due[what]);
        }
        Twin.refuses(Twin::rich, Due.BEYOND, y -> y.of(0, -1), y -> y.of(0, 6), y -> y.of(0, MIN), y -> y.of(0, MAX));
    }

    private static void ofPlaces() {
        PennyLedge x = Twin.rich();
        Due.is("10 times COLUMN, and ROW", x.of(0, 1), 34);
        Due.is("ROW 5", x.of(7, 1), 65);
        Due.is("in the HAND", x.of(13, 1), 100);
        Due.is("WON", x.of(3, 1), 101);
        Due.is("the HOUSE's", x.of(8, 1), 102);
        PennyLedge first = Due.shelf("coin at 0 0");
        Due.is("COLUMN 0, ROW 0", first.of(0, 1), 0);
    }

    private static void askingChangesNothing() {
        for (int what = 0; what < 6; what++) {
            int asked = what;
            Twin.leaves(Twin::rich, x -> x.of(0, asked), x -> x.of(3, asked), x -> x.of(13, asked));
        }
        Twin.leaves(Twin::rich, x -> x.height(0, 0), x -> x.height(6, 5), x -> x.seen(3, 5, 0), x -> x.seen(3, 5, 1));
        Twin.leaves(Twin::rich, x -> x.run(0), x -> x.run(6), x -> x.weight(0), x -> x.weight(6), x -> x.moved());
        Twin.leaves(Twin::rich, x -> x.set(0, x.set(0, 3)), x -> x.seed(x.seed(3)), x -> x.change(3, x.change(3, 3)));
    }

    private static void ofPlaceInStack() {
        PennyLedge x = Due.shelf(Due.times(4, "coin at 6 5"));
        for (int i = 0; i < 4; i++) {
            Due.is("0: undermost", x.of(i, 2), i);
        }
        x.lift(6, 5);
        Due.is("0 in the HAND", x.of(3, 2), 0);
        x.beats(1);
        Due.is("0 if it is the HOUSE's", x.of(2, 2), 0);
        PennyLedge y = Due.shelf(Due.times(3, "coin at 3 5"));
        y.beats(1);
        Due.is("0 if it is WON", y.of(2, 2), 0);
    }

    // ---- 4

    private static void changeKinds() {
        PennyLedge x = Due.shelf("big");
        Due.is("to 6", x.change(0, 6), 1);
        Due.is("to 0", x.change(0, 0), 6);
        Due.is("to what it is", x.change(0, 0), 0);
        Twin.refuses(Twin::rich, Due.BEYOND,
            y -> y.change(0, -1), y -> y.change(0, 7), y -> y.change(0, MIN), y -> y.change(0, MAX));
    }

    private static void changeCoins() {
        PennyLedge x = Due.shelf("big;watch");
        Due.is("the last", x.change(1, 3), 2);
        Twin.refuses(Twin::rich, Due.BEYOND,
            y -> y.change(-1, 0), y -> y.change(14, 0), y -> y.change(MIN, 0), y -> y.change(MAX, 0));
    }

    private static void changeAnywhere() {
        PennyLedge x = Twin.rich();
        Due.is("GAIN", x.now(1), 0);
        Due.is("one WON", x.change(3, 2), 0);
        Due.is("GAIN then", x.now(1), 49);
        Due.is("one of the HOUSE's", x.change(8, 2), 4);
        Due.is("the HOUSE's then", x.now(6), 50);
        Due.is("one in the HAND", x.change(13, 5), 0);
        Due.is("one on the shelf", x.change(0, 6), 2);
        Due.is("stays where it is", x.of(0, 1), 34);
    }

    // ---- 5

    private static void layCoins() {
        Twin.refuses(Twin::rich, Due.BEYOND,
            y -> y.lay(-1, 0, 0), y -> y.lay(14, 0, 0), y -> y.lay(MIN, 0, 0), y -> y.lay(MAX, 0, 0));
        PennyLedge x = Twin.rich();
        Due.is("the last", x.lay(13, 0, 0), 1);
    }

    private static void layCells() {
        PennyLedge x = Due.shelf("coin;coin");
        Due.is("0 0", x.lay(0, 0, 0), 1);
        Due.is("6 5", x.lay(1, 6, 5), 1);
        Twin.refuses(Twin::rich, Due.BEYOND,
            y -> y.lay(9, -1, 0), y -> y.lay(9, 7, 0), y -> y.lay(9, MIN, 0), y -> y.lay(9, MAX, 0),
            y -> y.lay(9, 0, -1), y -> y.lay(9, 0, 6), y -> y.lay(9, 0, MIN), y -> y.lay(9, 0, MAX));
    }

    private static void layFromTheHandAlone() {
        Twin.refuses(Twin::rich, Due.STATE, y -> y.lay(0, 2, 2), y -> y.lay(0, 3, 4), y -> y.lay(3, 2, 2), y -> y.lay(8, 2, 2));
    }

    private static void layFull() {
        PennyLedge x = Due.shelf(Due.times(3, "coin at 1 1"), "coin;coin");
        Due.is("the fourth", x.lay(3, 1, 1), 4);
        Twin.refuses(() -> fullCell(1, 1), Due.FULL, y -> y.lay(4, 1, 1));
        Twin.refuses(() -> fullCell(6, 5), Due.FULL, y -> y.lay(4, 6, 5));
    }

    /** Coins 0 to 3 in a cell, 4 in the hand. */
    private static PennyLedge fullCell(int column, int row) {
        PennyLedge x = Due.shelf(Due.times(5, "coin"));
        for (int i = 0; i < 4; i++) {
            x.lay(i, column, row);
        }
        return x;
    }

    private static void layBeyondStateFull() {
        Twin.refuses(() -> fullCell(1, 1), Due.BEYOND, y -> y.lay(0, 7, 1), y -> y.lay(0, 1, 6), y -> y.lay(5, 1, 1));
        Twin.refuses(() -> fullCell(1, 1), Due.STATE, y -> y.lay(0, 1, 1));
    }

    // ---- 6

    private static void liftCells() {
        Twin.refuses(Twin::rich, Due.BEYOND, y -> y.lift(-1, 0), y -> y.lift(7, 0), y -> y.lift(MIN, 0),
            y -> y.lift(MAX, 0), y -> y.lift(0, -1), y -> y.lift(0, 6), y -> y.lift(0, MIN), y -> y.lift(0, MAX));
        PennyLedge x = Due.shelf("coin at 0 0;coin at 6 5");
        Due.is("6 5", x.lift(6, 5), 1);
        Due.is("0 0", x.lift(0, 0), 0);
    }

    private static void liftNone() {
        Twin.refuses(Twin::rich, Due.NONE, y -> y.lift(0, 0), y -> y.lift(6, 0), y -> y.lift(3, 3));
        PennyLedge x = Due.shelf("coin at 2 2");
        Due.is("the only one", x.lift(2, 2), 0);
        Due.is("none then", x.lift(2, 2), Due.NONE);
    }

    private static void liftFromFour() {
        PennyLedge x = fullCell(0, 5);
        for (int k = 3; k >= 0; k--) {
            Due.is("the top one", x.lift(0, 5), k);
            Due.is("in the HAND", x.of(k, 1), 100);
            Due.is("so many stay", x.height(0, 5), k);
        }
    }

    // ---- 7

    private static void heightCells() {
        Twin.refuses(Twin::rich, Due.BEYOND,
            y -> y.height(-1, 0), y -> y.height(7, 0), y -> y.height(MIN, 0), y -> y.height(MAX, 0),
            y -> y.height(0, -1), y -> y.height(0, 6), y -> y.height(0, MIN), y -> y.height(0, MAX));
    }

    private static void heightEmptyAndFull() {
        PennyLedge x = Due.shelf("coin;coin;coin;coin");
        for (int i = 0; i < 4; i++) {
            Due.is("height", x.height(6, 5), i);
            x.lay(i, 6, 5);
        }
        Due.is("full", x.height(6, 5), 4);
        Due.is("beside it", x.height(6, 4), 0);
        Due.is("the first cell", x.height(0, 0), 0);
        Twin.leaves(Twin::rich, 2, y -> y.height(3, 5));
    }

    // ---- 8

    private static void seenCells() {
        Twin.refuses(Twin::rich, Due.BEYOND,
            y -> y.seen(-1, 0, 0), y -> y.seen(7, 0, 0), y -> y.seen(MIN, 0, 0), y -> y.seen(MAX, 0, 0),
            y -> y.seen(0, -1, 0), y -> y.seen(0, 6, 0), y -> y.seen(0, MIN, 0), y -> y.seen(0, MAX, 0));
    }

    private static void seenK() {
        Twin.refuses(Twin::rich, Due.BEYOND,
            y -> y.seen(3, 5, -1), y -> y.seen(3, 5, 4), y -> y.seen(3, 5, MIN), y -> y.seen(3, 5, MAX));
        PennyLedge x = fullCell(3, 3);
        Due.is("0: undermost", x.seen(3, 3, 0), 0);
        Due.is("3: topmost", x.seen(3, 3, 3), 3);
    }

    private static void seenNone() {
        Twin.refuses(Twin::rich, Due.NONE, y -> y.seen(3, 5, 2), y -> y.seen(3, 5, 3), y -> y.seen(0, 0, 0));
        PennyLedge x = Due.shelf("coin at 3 3;coin at 3 3;coin at 3 3");
        Due.is("the top one", x.seen(3, 3, 2), 2);
        Due.is("above it", x.seen(3, 3, 3), Due.NONE);
        x.lift(3, 3);
        Due.is("lifted", x.seen(3, 3, 2), Due.NONE);
    }

    private static void seenBeyondAheadOfNone() {
        Twin.refuses(Twin::rich, Due.BEYOND, y -> y.seen(0, 0, 4), y -> y.seen(0, 0, -1));
    }

    // ---- 9

    private static void setWhat() {
        Twin.refuses(Twin::rich, Due.BEYOND, y -> y.set(-1, 1), y -> y.set(3, 1), y -> y.set(MIN, 1), y -> y.set(MAX, 1));
    }

    private static void setForce() {
        PennyLedge x = new PennyLedge();
        Due.is("0", x.set(0, 0), 8);
        Due.is("60", x.set(0, 60), 0);
        Due.is("what it was", x.set(0, 8), 60);
        Twin.refuses(Twin::rich, Due.BEYOND, y -> y.set(0, -1), y -> y.set(0, 61), y -> y.set(0, MIN), y -> y.set(0, MAX));
    }

    private static void setStroke() {
        PennyLedge x = new PennyLedge();
        Due.is("1", x.set(1, 1), 2);
        Due.is("6", x.set(1, 6), 1);
        Due.is("what it was", x.set(1, 2), 6);
        Twin.refuses(Twin::rich, Due.BEYOND, y -> y.set(1, 0), y -> y.set(1, 7), y -> y.set(1, MIN), y -> y.set(1, MAX));
    }

    private static void setSides() {
        PennyLedge x = new PennyLedge();
        Due.is("0", x.set(2, 0), 1);
        Due.is("3", x.set(2, 3), 0);
        Due.is("what it was", x.set(2, 1), 3);
        Twin.refuses(Twin::rich, Due.BEYOND, y -> y.set(2, -1), y -> y.set(2, 4), y -> y.set(2, MIN), y -> y.set(2, MAX));
    }
}
