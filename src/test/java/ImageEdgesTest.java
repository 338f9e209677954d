import java.util.function.ToLongFunction;

/** Promises 47 to 51: a test for each sentence that names a bound. */
public final class ImageEdgesTest {
    private static final int MIN = Integer.MIN_VALUE;
    private static final int MAX = Integer.MAX_VALUE;

    public static void main(String[] args) throws Exception {
        Due.each(ImageEdgesTest.class);
    }

    // ---- 47, 48, 49

    /** An image of a new object is kept, too. */
    private static void imageOfNothing() {
        PennyLedge x = new PennyLedge();
        Due.is("image", x.image(), 1);
        Due.is("undo", x.undo(), 0);
        Due.is("tear", x.tear(), 1);
        Due.is("no finding", x.status(-1), 0);
    }

    /** An image taken twice is the latest one; undo() at once changes nothing. */
    private static void imageAgain() {
        PennyLedge x = new PennyLedge();
        x.image();
        x.beats(3);
        Due.is("again", x.image(), 1);
        x.beats(4);
        Due.is("the latest", x.undo(), 3);
        Due.is("which stays", x.undo(), 3);
        Twin.leaves(() -> imaged(), 2, y -> y.undo());
    }

    private static PennyLedge imaged() {
        PennyLedge x = Twin.rich();
        x.image();
        return x;
    }

    private static void imageOfAllCoins() {
        PennyLedge x = Twin.crowded();
        x.image();
        for (int coin = 0; coin < 24; coin++) {
            x.change(coin, 6);
        }
        x.drop(23 - 1, 0);
        x.undo();
        Due.is("the first", x.of(0, 0), 0);
        Due.is("the last", x.of(23, 0), 3);
        Due.is("where that is", x.of(23, 1), 23);
        Due.is("all others in the HAND", x.now(4), 0x7fffff);
    }

    /** All that is kept, as it was: each of the settings, spots, z, BEAT, DROPPED, what is WON and the HOUSE's. */
    private static void imageOfAll() {
        PennyLedge x = Due.shelf("force 0;stroke 6;sides 2;coin;coin", Due.times(3, "big at 3 5"), Due.times(3, "crown at 0 5"));
        x.drop(0, 2);
        x.hold(0, 0);
        x.hold(9, 7);
        x.seed(77);
        x.image();
        x.set(0, 60);
        x.set(1, 1);
        x.set(2, 3);
        x.drop(1, 2);
        x.hold(0, 1);
        x.hold(9, -1);
        x.hold(5, 3);
        x.seed(78);
        x.change(4, 2);
        x.change(7, 2);
        Due.is("undo", x.undo(), 1);
        int[] now = {1, 1, 16, 128, 2, 1, 5};
        for (int what = 0; what < now.length; what++) {
            Due.is("now " + what, x.now(what), now[what]);
        }
        Due.is("FORCE", x.set(0, 1), 0);
        Due.is("STROKE", x.set(1, 1), 6);
        Due.is("SIDES", x.set(2, 1), 2);
        Due.is("z", x.count(6), 77);
        Due.is("the first spot", x.as(0, 0), 0);
        Due.is("the last spot", x.as(9, 3), 7);
        Due.is("all spots", x.count(7), 2);
    }

    /** At BEAT 9999 and back. */
    private static void undoFromTheEnd() {
        PennyLedge x = Twin.far(9999).get();
        Due.is("BEAT 9999", x.beats(1), Due.STATE);
        Due.is("back", x.undo(), 0);
        Due.is("one more goes", x.beats(1), 0);
        PennyLedge y = Due.shelf("coin");
        Due.toBeat(y, 9999);
        y.image();
        Due.is("to it", y.undo(), 9999);
    }

    private static void undoNone() {
        Twin.refuses(PennyLedge::new, Due.NONE, x -> x.undo());
        Twin.refuses(Twin::crowded, Due.NONE, x -> x.undo());
        Twin.refuses(() -> torn(), Due.NONE, x -> x.undo());
    }

    private static PennyLedge torn() {
        PennyLedge x = Twin.rich();
        x.tear();
        return x;
    }

    /** "All but THE TAPE and SHEETS": these stay, the empty and the full. */
    private static void undoLeavesTapeAndSheets() {
        PennyLedge x = new PennyLedge();
        x.image();
        Due.feed(x, "a".repeat(120));
        x.sheet(0, 8, 40);
        x.sheet(3, 32, 0);
        x.undo();
        Due.is("THE TAPE is full", x.feed(0, 1), Due.FULL);
        Due.is("the sheet has 40", x.write(0, 39, 1), 1);
        Due.is("that is none", x.judge(3), 0);
        x.image();
        x.wipe();
        x.sheet(0, 0, 0);
        x.undo();
        Due.is("THE TAPE is empty", x.count(5), 0);
        Due.is("the sheet is MISSING", x.judge(0), Due.MISSING);
    }

    private static void undoLeavesStatus() {
        PennyLedge x = new PennyLedge();
        x.coin(7);
        x.image();
        x.coin(7);
        x.lift(0, 0);
        x.undo();
        Due.is("BEYOND", x.status(0), 2);
        Due.is("NONE", x.status(3), 1);
        Due.is("all", x.status(-1), 3);
    }

    private static void tearOnce() {
        Due.is("nothing was", new PennyLedge().tear(), 0);
        PennyLedge x = imaged();
        Due.is("something was", x.tear(), 1);
        Due.is("nothing is", x.tear(), 0);
        Due.is("no finding", x.status(-1), 0);
        Twin.leaves(() -> torn(), 0, y -> y.tear());
        Due.is("kept anew", x.image(), 1);
        Due.is("something is", x.tear(), 1);
    }

    // ---- 50

    private static void countWhat() {
        Twin.refuses(Twin::rich, Due.BEYOND, x -> x.count(-1), x -> x.count(8), x -> x.count(MIN), x -> x.count(MAX));
        int[] due = {2, 14, 8, 57, 5, 19, -5, 3};
        for (int what = 0; what < due.length; what++) {
            int asked = what;
            Twin.leaves(Twin::rich, due[what], x -> x.count(asked));
        }
    }

    private static void countEmptyAndFull() {
        PennyLedge x = new PennyLedge();
        int[] none = {0, 0, 0, 0, 0, 0, 1, 0};
        for (int what = 0; what < none.length; what++) {
            Due.is("new " + what, x.count(what), none[what]);
        }
        for (int i = 0; i < 24; i++) {
            x.lay(x.coin(2), i % 7, i % 6);
            x.hold(i % 10, i);
        }
        Due.feed(x, "a".repeat(120));
        int[] all = {0, 24, 24, 1200, 24, 120, 1, 10};
        for (int what = 0; what < all.length; what++) {
            Due.is("full " + what, x.count(what), all[what]);
        }
    }

    /** "stacks that there are": one of four is one, an empty cell is none. */
    private static void countStacks() {
        PennyLedge x = Due.shelf("force 0", Due.times(4, "watch at 3 3"));
        Due.is("one of four", x.count(4), 1);
        for (int left = 3; left >= 0; left--) {
            x.lift(3, 3);
            Due.is("one of " + left, x.count(4), left > 0 ? 1 : 0);
        }
    }

    /** "those on the shelf": neither in the HAND, nor WON, nor the HOUSE's. */
    private static void countOnTheShelf() {
        PennyLedge x = Due.shelf("force 0;coin", Due.times(3, "big at 3 5"), Due.times(3, "big at 0 5"));
        Due.is("six", x.count(2), 6);
        Due.is("WORTH", x.count(3), 12);
        x.beats(1);
        Due.is("four", x.count(2), 4);
        Due.is("WORTH of four", x.count(3), 8);
        Due.is("COINS are all", x.count(1), 7);
    }

    // ---- 51

    private static void statusWhich() {
        Twin.refuses(Twin::rich, Due.BEYOND, x -> x.status(-2), x -> x.status(7), x -> x.status(MIN), x -> x.status(MAX));
        for (int which = -1; which <= 6; which++) {
            int asked = which;
            Twin.leaves(Twin::rich, 0, x -> x.status(asked));
        }
    }

    /** "BEYOND (counted from then on): another one." */
    private static void statusCountsItself() {
        PennyLedge x = new PennyLedge();
        for (int i = 1; i <= 5; i++) {
            Due.is("another one", x.status(7), Due.BEYOND);
            Due.is("counted", x.status(0), i);
            Due.is("of all", x.status(-1), i);
        }
    }

    /** "which -1: all, 0 to 6: BEYOND to SIZE": one of each, by an act each. */
    private static void statusOfEach() {
        for (int finding = 0; finding <= 6; finding++) {
            PennyLedge x = Due.shelf(Due.times(4, "coin at 0 0"), "coin");
            x.hold(0, 0);
            Due.is("the finding", act(finding).applyAsLong(x), -1000001 - finding);
            for (int which = 0; which <= 6; which++) {
                Due.is("finding " + finding + ", status " + which, x.status(which), which == finding ? 1 : 0);
            }
            Due.is("all", x.status(-1), 1);
        }
    }

    private static ToLongFunction<PennyLedge> act(int finding) {
        switch (finding) {
            case 0:
                return x -> x.luck(9, 9);
            case 1:
                return x -> x.lay(4, 0, 0);
            case 2:
                return x -> x.as(0, 1);
            case 3:
                return x -> x.lift(6, 5);
            case 4:
                return x -> x.total(3);
            case 5:
                return x -> x.load(0);
            default:
                return x -> x.sheet(0, 0, -1);
        }
    }

    /** "How many acts answered a finding ever": as many as an object has calls. */
    private static void statusOfMany() {
        PennyLedge x = new PennyLedge();
        for (int i = 0; i < 400; i++) {
            x.ways(4, 0);
        }
        Due.is("all", x.status(-1), 400);
        Due.is("no call that answers none counts", x.wipe() + x.text(), -1);
        Due.is("all still", x.status(-1), 400);
    }
}
