/** Promises 10 to 19: a test for each sentence that names a bound. */
public final class BeatEdgesTest {
    private static final int MIN = Integer.MIN_VALUE;
    private static final int MAX = Integer.MAX_VALUE;
    /** Column 3, rows 0 to 5, a coin each: of weight 6. */
    private static final String RUN = "coin at 3 0;coin at 3 1;coin at 3 2;coin at 3 3;coin at 3 4;coin at 3 5";

    public static void main(String[] args) throws Exception {
        Due.each(BeatEdgesTest.class);
    }

    // ---- 10

    private static void dropCoins() {
        Twin.refuses(Twin::rich, Due.BEYOND,
            x -> x.drop(-1, 0), x -> x.drop(14, 0), x -> x.drop(MIN, 0), x -> x.drop(MAX, 0));
        Due.is("the last", Twin.rich().drop(13, 0), -1);
        Due.is("the first", Due.shelf("coin").drop(0, 0), -1);
    }

    private static void dropColumns() {
        Twin.refuses(Twin::rich, Due.BEYOND,
            x -> x.drop(9, -1), x -> x.drop(9, 7), x -> x.drop(9, MIN), x -> x.drop(9, MAX));
        PennyLedge x = Due.shelf("force 0;coin;coin");
        x.drop(0, 0);
        Due.is("column 0", x.of(0, 1), 0);
        x.drop(1, 6);
        Due.is("column 6", x.of(1, 1), 61);
    }

    private static void dropFromTheHandAlone() {
        Twin.refuses(Twin::rich, Due.STATE, x -> x.drop(0, 3), x -> x.drop(3, 3), x -> x.drop(8, 3));
    }

    private static void dropAtTheLastBeat() {
        PennyLedge x = Twin.far(9998).get();
        Due.is("BEAT 9998", x.drop(2, 0), -1);
        Due.is("BEAT then", x.now(0), 9999);
        Twin.refuses(Twin.far(9999), Due.STATE, y -> y.drop(2, 0));
    }

    private static void dropBeyondAheadOfState() {
        Twin.refuses(Twin::rich, Due.BEYOND, x -> x.drop(0, 7), x -> x.drop(3, -1));
        Twin.refuses(Twin.far(9999), Due.BEYOND, x -> x.drop(2, 7), x -> x.drop(6, 0), x -> x.drop(-1, 0));
    }

    /** "what GAIN is more then (the 1 for it counts)": with nothing WON, with one, by the house. */
    private static void dropGain() {
        PennyLedge x = Due.shelf("coin at 3 1;coin at 3 2;coin at 3 3;coin at 3 4;bent at 3 5;coin;force 10");
        Due.is("25 less 1", x.drop(5, 3), 24);
        PennyLedge y = Due.shelf("coin at 0 1;coin at 0 2;coin at 0 3;coin at 0 4;bent at 0 5;coin;force 10");
        Due.is("the HOUSE's does not count", y.drop(5, 0), -1);
        Due.is("it went over", y.of(4, 1), 102);
        PennyLedge z = Due.shelf("force 0;coin", Due.times(3, "big at 3 5"));
        Due.is("what the BEAT makes slide counts", z.drop(0, 0), 1);
    }

    // ---- 11

    private static void beatsMany() {
        Twin.refuses(Twin::rich, Due.BEYOND,
            x -> x.beats(0), x -> x.beats(-1), x -> x.beats(61), x -> x.beats(MIN), x -> x.beats(MAX));
        PennyLedge x = new PennyLedge();
        Due.is("1", x.beats(1), 0);
        Due.is("BEAT", x.now(0), 1);
        Due.is("60", x.beats(60), 0);
        Due.is("BEAT", x.now(0), 61);
    }

    private static void beatsToTheEnd() {
        Twin.refuses(Twin.far(9999), Due.STATE, x -> x.beats(1), x -> x.beats(60));
        Twin.refuses(Twin.far(9940), Due.STATE, x -> x.beats(60));
        PennyLedge x = Twin.far(9939).get();
        Due.is("to 9999", x.beats(60), 0);
        Due.is("BEAT", x.now(0), 9999);
    }

    private static void beatsBeyondAheadOfState() {
        Twin.refuses(Twin.far(9999), Due.BEYOND, x -> x.beats(61), x -> x.beats(0));
    }

    /** "how many COINS go over": WON and the HOUSE's, none and all of a column. */
    private static void beatsOver() {
        PennyLedge x = Due.shelf("force 0", Due.times(4, "coin at 0 5"), Due.times(4, "coin at 3 5"));
        Due.is("one each", x.beats(1), 2);
        Due.is("one each again", x.beats(1), 2);
        Due.is("none", x.beats(60), 0);
    }

    // ---- 12

    private static void nowWhat() {
        Twin.refuses(Twin::rich, Due.BEYOND, x -> x.now(-1), x -> x.now(7), x -> x.now(MIN), x -> x.now(MAX));
        int[] due = {2, 0, 8, 256, 11776, 1, 25};
        for (int what = 0; what < due.length; what++) {
            int asked = what;
            Twin.leaves(Twin::rich, due[what], x -> x.now(asked));
        }
    }

    private static void nowEmptyAndFull() {
        PennyLedge x = new PennyLedge();
        for (int what = 0; what < 7; what++) {
            Due.is("new", x.now(what), 0);
        }
        x = Due.shelf(Due.times(24, "big"), "force 0;sides 0");
        Due.is("all in the HAND", x.now(4), 0xffffff);
        for (int i = 0; i < 24; i++) {
            x.lay(i, i / 4, 5);
        }
        Due.is("none in the HAND", x.now(4), 0);
        x.beats(2);
        Due.is("the two upper ones of each are WON", x.now(2), 0xcccccc);
        Due.is("GAIN", x.now(1), 24);
        Due.is("none the HOUSE's", x.now(3), 0);
    }

    private static void nowOfTheHouse() {
        PennyLedge x = Due.shelf("force 0;sides 3");
        for (int i = 0; i < 24; i++) {
            x.coin(3);
            x.lay(i, i / 4 + (i >= 12 ? 1 : 0), 5);
        }
        x.beats(2);
        Due.is("none WON", x.now(2), 0);
        Due.is("the HOUSE's", x.now(3), 0xcccccc);
        Due.is("their WORTH", x.now(6), 60);
        Due.is("GAIN", x.now(1), 0);
    }

    // ---- 13, 14

    private static void runColumns() {
        Twin.refuses(Twin::rich, Due.BEYOND, x -> x.run(-1), x -> x.run(7), x -> x.run(MIN), x -> x.run(MAX));
        Twin.refuses(Twin::rich, Due.BEYOND, x -> x.weight(-1), x -> x.weight(7), x -> x.weight(MIN), x -> x.weight(MAX));
        PennyLedge x = Due.shelf("big at 0 0;watch at 6 0");
        Due.is("column 0", x.run(0), 1);
        Due.is("column 6", x.run(6), 1);
        Due.is("weight of column 0", x.weight(0), 2);
        Due.is("weight of column 6", x.weight(6), 5);
    }

    /** 0 to 6 ROWS: each is one more, and what lies behind a gap does not count. */
    private static void runRows() {
        PennyLedge x = Due.shelf(Due.times(6, "coin"), "big");
        for (int row = 0; row < 6; row++) {
            if (row < 5) {
                x.lay(6, 3, row + 1);
                Due.is("with a gap at " + row, x.run(3), row);
                Due.is("weight with a gap at " + row, x.weight(3), row);
                x.lift(3, row + 1);
            }
            x.lay(row, 3, row);
            Due.is("to row " + row, x.run(3), row + 1);
            Due.is("weight to row " + row, x.weight(3), row + 1);
        }
    }

    /** Empty columns, and one with all 24 coins. */
    private static void runEmptyAndFull() {
        PennyLedge x = new PennyLedge();
        for (int column = 0; column < 7; column++) {
            Due.is("no row", x.run(column), 0);
            Due.is("no weight", x.weight(column), 0);
        }
        for (int i = 0; i < 24; i++) {
            x.lay(x.coin(2), 3, i / 4);
        }
        Due.is("six rows", x.run(3), 6);
        Due.is("24 watches", x.weight(3), 120);
        Due.is("those beside it", x.run(2) + x.run(4) + x.weight(2) + x.weight(4), 0);
    }

    // ---- 15, 16

    private static void movedNoneAndAll() {
        PennyLedge x = new PennyLedge();
        Due.is("none", x.moved(), 0);
        for (int column = 0; column < 7; column++) {
            x.lay(x.coin(0), column, 0);
        }
        Due.is("all", x.moved(), 127);
        x.set(0, 0);
        Due.is("FORCE 0", x.moved(), 0);
        x.set(0, 1);
        Due.is("FORCE 1", x.moved(), 127);
    }

    /** "(whatever BEAT is)": also where it does not push, and at the last. */
    private static void movedWheneverItIs() {
        PennyLedge x = Due.shelf("stroke 6;coin");
        x.beats(5);
        x.lay(0, 5, 0);
        Due.is("BEAT 5", x.moved(), 32);
        Twin.leaves(() -> lateCoin(), 8, y -> y.moved());
    }

    private static PennyLedge lateCoin() {
        PennyLedge x = Due.shelf("coin");
        Due.toBeat(x, 9999);
        x.lay(0, 3, 0);
        return x;
    }

    private static void leaningNoneAndMany() {
        PennyLedge x = new PennyLedge();
        Due.is("none", x.leaning(), 0);
        for (int i = 0; i < 24; i++) {
            x.lay(x.coin(0), i / 3 % 4, i < 12 ? 5 : 1);
        }
        Due.is("eight stacks of three", x.leaning(), 8);
        Twin.leaves(Twin::rich, x0 -> x0.leaning());
    }

    /** Each of the 42 cells may lean, and may be the highest. */
    private static void leaningEachCell() {
        for (int cell = 0; cell < 42; cell++) {
            PennyLedge x = Due.shelf("coin;coin;coin");
            x.lay(0, cell / 6, cell % 6);
            x.lay(1, cell / 6, cell % 6);
            Due.is("two on cell " + cell, x.leaning(), 0);
            Due.is("highest with cell " + cell, x.ahead(0, 3), 2);
            x.lay(2, cell / 6, cell % 6);
            Due.is("three on cell " + cell, x.leaning(), 1);
            Due.is("highest of cell " + cell, x.ahead(0, 3), 3);
        }
    }

    /** "of ROW 5": the row behind it is over the edge, not row 0 of the next column. */
    private static void leaningAtTheEdge() {
        PennyLedge x = Due.shelf("force 0", Due.times(3, "coin at 2 5"), Due.times(4, "lead at 3 0"));
        Due.is("three at the edge", x.leaning(), 1);
        x.lift(2, 5);
        Due.is("two", x.leaning(), 0);
    }

    /** "(none having slid yet)": a stack onto which another would slide counts as it is. */
    private static void leaningAsTheyAre() {
        PennyLedge x = Due.shelf("force 0", Due.times(4, "coin at 2 2"), "coin at 2 3", Due.times(4, "coin at 2 1"));
        Due.is("row 2 leans, row 1 does not yet", x.leaning(), 1);
        PennyLedge y = Due.shelf("force 0", Due.times(4, "coin at 2 3"), Due.times(3, "coin at 2 5"));
        Due.is("row 3, row 5", y.leaning(), 2);
    }

    // ---- 17

    private static void aheadBounds() {
        Twin.refuses(Twin::rich, Due.BEYOND,
            x -> x.ahead(-1, 0), x -> x.ahead(61, 0), x -> x.ahead(MIN, 0), x -> x.ahead(MAX, 0),
            x -> x.ahead(0, -1), x -> x.ahead(0, 4), x -> x.ahead(0, MIN), x -> x.ahead(0, MAX));
        for (int what = 0; what < 4; what++) {
            int asked = what;
            Twin.leaves(Twin::rich, x -> x.ahead(0, asked), x -> x.ahead(1, asked), x -> x.ahead(60, asked));
        }
    }

    private static void aheadOfNone() {
        PennyLedge x = Twin.rich();
        Due.is("WORTH of none", x.ahead(0, 0), 0);
        Due.is("none goes over", x.ahead(0, 1), 0);
        Due.is("still on the shelf", x.ahead(0, 2), 0x10f7 & ~8);
        Due.is("the highest", x.ahead(0, 3), 2);
        PennyLedge none = new PennyLedge();
        for (int what = 0; what < 4; what++) {
            Due.is("empty, now", none.ahead(0, what), 0);
            Due.is("empty, then", none.ahead(60, what), 0);
        }
    }

    private static void aheadToTheEnd() {
        Twin.refuses(Twin.far(9999), Due.STATE, x -> x.ahead(1, 0), x -> x.ahead(60, 3));
        Twin.refuses(Twin.far(9940), Due.STATE, x -> x.ahead(60, 0));
        Twin.leaves(Twin.far(9999), 3, x -> x.ahead(0, 2));
        Twin.leaves(Twin.far(9998), 3, x -> x.ahead(1, 2));
        Twin.leaves(Twin.far(9939), 3, x -> x.ahead(60, 2));
    }

    private static void aheadBeyondAheadOfState() {
        Twin.refuses(Twin.far(9999), Due.BEYOND, x -> x.ahead(61, 0), x -> x.ahead(1, 4), x -> x.ahead(-1, 0));
    }

    /** "WORTH of those WON in them": neither the HOUSE's nor those WON before. */
    private static void aheadWonInThem() {
        PennyLedge x = Due.shelf("force 0", Due.times(4, "big at 3 5"), Due.times(4, "crown at 0 5"));
        x.beats(1);
        Due.is("WORTH", x.ahead(1, 0), 2);
        Due.is("over", x.ahead(1, 1), 2);
        Due.is("no more", x.ahead(60, 0), 2);
        x.beats(1);
        Due.is("WORTH of none", x.ahead(60, 0), 0);
        Due.is("none", x.ahead(60, 1), 0);
    }

    // ---- 18

    private static void fallsCoins() {
        Twin.refuses(Twin::rich, Due.BEYOND, x -> x.falls(-1), x -> x.falls(14), x -> x.falls(MIN), x -> x.falls(MAX));
        Due.is("the last", Due.shelf("coin", Due.times(3, "coin at 3 5")).falls(3), 1);
        Due.is("the first", Due.shelf("coin at 3 5", "stroke 1", RUN).falls(0), 1);
    }

    private static void fallsFromACellAlone() {
        Twin.refuses(Twin::rich, Due.STATE, x -> x.falls(9), x -> x.falls(3), x -> x.falls(8));
    }

    private static void fallsLate() {
        Twin.refuses(Twin.far(9939), Due.NONE, x -> x.falls(0), x -> x.falls(1));
        Twin.refuses(Twin.far(9940), Due.STATE, x -> x.falls(0), x -> x.falls(1));
    }

    private static void fallsInOrder() {
        Twin.refuses(Twin.far(9940), Due.BEYOND, x -> x.falls(6), x -> x.falls(-1));
        Twin.refuses(Twin.far(9940), Due.STATE, x -> x.falls(2));
        Twin.refuses(Twin::rich, Due.NONE, x -> x.falls(0), x -> x.falls(4));
    }

    /** "has gone over first": at once, at the sixth beat, at the one behind it, never. */
    private static void fallsFirst() {
        PennyLedge x = Due.shelf("force 0;stroke 6", "coin at 3 0;coin at 3 1;coin at 3 2;coin at 3 3;big at 3 5;big at 3 5",
            Due.times(4, "coin at 3 4"));
        x.beats(1);
        x.set(0, 12);
        Due.is("pushed over at BEAT 6", x.falls(4), 6);
        Due.is("slides over in the same beat", x.falls(9), 6);
        Due.is("the one below in the next", x.falls(8), 7);
        Due.is("the lower two never", x.falls(7), Due.NONE);
        x.beats(5);
        Due.is("at once", x.falls(4), 1);
        Due.is("the one below", x.falls(8), 2);
        Twin.leaves(() -> Due.shelf(Due.times(4, "coin at 3 5")), 2, y -> y.falls(2));
    }

    // ---- 19

    private static void restLate() {
        Twin.leaves(Twin.far(9930), 0, x -> x.rest());
        Twin.refuses(Twin.far(9931), Due.STATE, x -> x.rest());
        Twin.refuses(Twin.far(9999), Due.STATE, x -> x.rest());
    }

    private static void restAtOnce() {
        Due.is("empty", new PennyLedge().rest(), 0);
        Twin.leaves(Twin::rich, x -> x.rest());
        PennyLedge x = Due.shelf("force 0", RUN);
        Due.is("nothing moves", x.rest(), 0);
    }

    /** "none of the next BEATS, as many as STROKE, moves a COIN": the last of these pushes. */
    private static void restByStrokes() {
        for (int stroke = 1; stroke <= 6; stroke++) {
            PennyLedge x = Due.shelf("coin");
            x.set(1, stroke);
            x.beats(1);
            x.lay(0, 3, 0);
            Due.is("STROKE " + stroke, x.rest(), stroke);
            x.beats(stroke);
            Due.is("STROKE " + stroke + ", then", x.rest(), 0);
        }
    }

    private static void restBehindSlides() {
        PennyLedge x = Due.shelf("force 0", Due.times(4, "coin at 3 5"));
        Due.is("two slide", x.rest(), 2);
        x.beats(1);
        Due.is("one slides", x.rest(), 1);
        x.beats(1);
        Due.is("none slides", x.rest(), 0);
        PennyLedge y = Due.shelf("stroke 6", "coin at 3 0;coin at 3 1;coin at 3 2;coin at 3 3;coin at 3 4");
        y.set(0, 0);
        y.beats(1);
        y.lift(3, 4);
        y.lay(4, 2, 5);
        y.set(0, 4);
        Due.is("a push that lets nothing slide", y.rest(), 6);
    }
}
