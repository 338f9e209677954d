/** Promises 1 to 9. */
public final class CellsTest {
    public static void main(String[] args) {
        newObject();
        coin();
        of();
        change();
        lay();
        lift();
        height();
        seen();
        set();
        Due.end();
    }

    private static void newObject() {
        PennyLedge x = new PennyLedge();
        int[] counts = {0, 0, 0, 0, 0, 0, 1, 0};
        for (int what = 0; what < counts.length; what++) {
            Due.is("1: count(" + what + ")", x.count(what), counts[what]);
        }
        for (int what = 0; what < 7; what++) {
            Due.is("1: now(" + what + ")", x.now(what), 0);
        }
        for (int column = 0; column < 7; column++) {
            for (int row = 0; row < 6; row++) {
                Due.is("1: height", x.height(column, row), 0);
            }
        }
        for (int spot = 0; spot < 10; spot++) {
            Due.is("1: as", x.as(spot, 0), Due.MISSING);
        }
        for (int s = 0; s < 4; s++) {
            Due.is("1: judge", x.judge(s), Due.MISSING);
        }
        Due.is("1: status(-1)", x.status(-1), 14);
        Due.is("1: status(5)", x.status(5), 14);
        Due.is("1: wipe", x.wipe(), 0);
        Due.is("1: tear", x.tear(), 0);
        Due.is("1: undo", x.undo(), Due.NONE);
        Due.is("1: FORCE", x.set(0, 0), 8);
        Due.is("1: STROKE", x.set(1, 1), 2);
        Due.is("1: SIDES", x.set(2, 0), 1);
        Due.is("1: z", x.seed(0), 1);
    }

    private static void coin() {
        PennyLedge x = new PennyLedge();
        Due.is("2: coin(-1)", x.coin(-1), Due.BEYOND);
        Due.is("2: coin(7)", x.coin(7), Due.BEYOND);
        for (int i = 0; i < 24; i++) {
            Due.is("2: coin " + i, x.coin(i % 7), i);
            Due.is("2: kind of coin " + i, x.of(i, 0), i % 7);
            Due.is("2: coin " + i + " in the hand", x.of(i, 1), 100);
        }
        Due.is("2: a 25th", x.coin(0), Due.FULL);
        Due.is("2: a 25th of no kind", x.coin(7), Due.BEYOND);
        Due.is("2: coins", x.count(1), 24);
    }

    private static void of() {
        int[] worth = {1, 2, 50, 5, 25, 0, 0};
        int[] weighs = {1, 2, 5, 3, 5, 1, 3};
        int[] slides = {1, 1, 0, 1, 1, 1, 0};
        PennyLedge x = new PennyLedge();
        for (int kind = 0; kind < 7; kind++) {
            x.coin(kind);
            Due.is("3: kind " + kind, x.of(kind, 0), kind);
            Due.is("3: worth of " + kind, x.of(kind, 3), worth[kind]);
            Due.is("3: weight of " + kind, x.of(kind, 4), weighs[kind]);
            Due.is("3: slides " + kind, x.of(kind, 5), slides[kind]);
            Due.is("3: place in no stack", x.of(kind, 2), 0);
        }
        x.lay(0, 6, 5);
        x.lay(1, 6, 5);
        x.lay(2, 6, 5);
        x.lay(3, 0, 4);
        Due.is("3: cell", x.of(2, 1), 65);
        Due.is("3: cell 0 4", x.of(3, 1), 4);
        for (int k = 0; k < 3; k++) {
            Due.is("3: place in the stack", x.of(k, 2), k);
        }
        Due.is("3: no coin -1", x.of(-1, 0), Due.BEYOND);
        Due.is("3: no coin 7", x.of(7, 0), Due.BEYOND);
        Due.is("3: what -1", x.of(0, -1), Due.BEYOND);
        Due.is("3: what 6", x.of(0, 6), Due.BEYOND);
        PennyLedge won = Due.shelf(Due.times(3, "coin at 3 5"), Due.times(3, "coin at 0 5"));
        won.beats(1);
        Due.is("3: won", won.of(2, 1), 101);
        Due.is("3: the house's", won.of(5, 1), 102);
        Due.is("3: place of a won one", won.of(2, 2), 0);
    }

    private static void change() {
        PennyLedge x = Due.shelf(Due.times(3, "coin at 3 5"));
        x.beats(1);
        Due.is("4: change", x.change(2, 2), 0);
        Due.is("4: kind", x.of(2, 0), 2);
        Due.is("4: gain by a changed won one", x.now(1), 50);
        Due.is("4: change back", x.change(2, 6), 2);
        Due.is("4: no coin", x.change(3, 0), Due.BEYOND);
        Due.is("4: coin -1", x.change(-1, 0), Due.BEYOND);
        Due.is("4: no kind", x.change(0, 7), Due.BEYOND);
        Due.is("4: kind -1", x.change(0, -1), Due.BEYOND);
        Due.is("4: unchanged", x.of(0, 0), 0);
    }

    private static void lay() {
        PennyLedge x = Due.shelf(Due.times(6, "coin"));
        for (int i = 0; i < 4; i++) {
            Due.is("5: lay", x.lay(i, 2, 3), i + 1);
        }
        Due.is("5: onto four", x.lay(4, 2, 3), Due.FULL);
        Due.is("5: not in the hand, onto four", x.lay(0, 2, 3), Due.STATE);
        Due.is("5: still in the hand", x.of(4, 1), 100);
        Due.is("5: no coin", x.lay(6, 0, 0), Due.BEYOND);
        Due.is("5: coin -1", x.lay(-1, 0, 0), Due.BEYOND);
        Due.is("5: column 7", x.lay(4, 7, 0), Due.BEYOND);
        Due.is("5: column -1", x.lay(4, -1, 0), Due.BEYOND);
        Due.is("5: row 6", x.lay(4, 0, 6), Due.BEYOND);
        Due.is("5: row -1", x.lay(4, 0, -1), Due.BEYOND);
        Due.is("5: not in the hand, nor a cell", x.lay(0, 7, 0), Due.BEYOND);
        Due.is("5: where it is", x.of(3, 1), 23);
    }

    private static void lift() {
        PennyLedge x = Due.shelf("big at 4 4;coin at 4 4");
        Due.is("6: lift", x.lift(4, 4), 1);
        Due.is("6: in the hand", x.of(1, 1), 100);
        Due.is("6: lift again", x.lift(4, 4), 0);
        Due.is("6: none", x.lift(4, 4), Due.NONE);
        Due.is("6: column 7", x.lift(7, 0), Due.BEYOND);
        Due.is("6: column -1", x.lift(-1, 0), Due.BEYOND);
        Due.is("6: row 6", x.lift(0, 6), Due.BEYOND);
        Due.is("6: row -1", x.lift(0, -1), Due.BEYOND);
        Due.is("6: may be laid again", x.lay(1, 0, 0), 1);
    }

    private static void height() {
        PennyLedge x = Due.shelf("coin at 6 0;coin at 6 0;coin at 5 5");
        Due.is("7: two", x.height(6, 0), 2);
        Due.is("7: one", x.height(5, 5), 1);
        Due.is("7: beside it", x.height(6, 1), 0);
        Due.is("7: column 7", x.height(7, 0), Due.BEYOND);
        Due.is("7: column -1", x.height(-1, 0), Due.BEYOND);
        Due.is("7: row 6", x.height(0, 6), Due.BEYOND);
        Due.is("7: row -1", x.height(0, -1), Due.BEYOND);
    }

    private static void seen() {
        PennyLedge x = Due.shelf("coin;coin at 1 2;coin at 1 2;coin at 2 2");
        Due.is("8: undermost", x.seen(1, 2, 0), 1);
        Due.is("8: on it", x.seen(1, 2, 1), 2);
        Due.is("8: none", x.seen(1, 2, 2), Due.NONE);
        Due.is("8: none at 3", x.seen(1, 2, 3), Due.NONE);
        Due.is("8: k 4", x.seen(1, 2, 4), Due.BEYOND);
        Due.is("8: k -1", x.seen(1, 2, -1), Due.BEYOND);
        Due.is("8: column 7", x.seen(7, 2, 0), Due.BEYOND);
        Due.is("8: row 6", x.seen(1, 6, 0), Due.BEYOND);
        Due.is("8: row -1", x.seen(1, -1, 0), Due.BEYOND);
    }

    private static void set() {
        PennyLedge x = new PennyLedge();
        int[] least = {0, 1, 0};
        int[] most = {60, 6, 3};
        int[] first = {8, 2, 1};
        for (int what = 0; what < 3; what++) {
            Due.is("9: below", x.set(what, least[what] - 1), Due.BEYOND);
            Due.is("9: above", x.set(what, most[what] + 1), Due.BEYOND);
            Due.is("9: least", x.set(what, least[what]), first[what]);
            Due.is("9: most", x.set(what, most[what]), least[what]);
            Due.is("9: what it was", x.set(what, first[what]), most[what]);
        }
        Due.is("9: what -1", x.set(-1, 1), Due.BEYOND);
        Due.is("9: what 3", x.set(3, 1), Due.BEYOND);
    }
}
