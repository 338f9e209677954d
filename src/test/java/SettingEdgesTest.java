/** Promises 31 to 36: a test for each sentence that names a bound. */
public final class SettingEdgesTest {
    private static final int MIN = Integer.MIN_VALUE;
    private static final int MAX = Integer.MAX_VALUE;
    /** Column 3, rows 0 to 5, a big one (coin 5) at the edge: of weight 7. */
    private static final String RUN = "coin at 3 0;coin at 3 1;coin at 3 2;coin at 3 3;coin at 3 4;big at 3 5";

    public static void main(String[] args) throws Exception {
        Due.each(SettingEdgesTest.class);
    }

    private static PennyLedge piles(int high, int next) {
        PennyLedge x = new PennyLedge();
        for (int i = 0; i < high; i++) {
            x.lay(x.coin(0), 3, 2);
        }
        for (int i = 0; i < next; i++) {
            x.lay(x.coin(2), 3, 3);
        }
        return x;
    }

    // ---- 31, 32

    /** "of each stack of 2 or more": 0 to 4. */
    private static void joltOfTwoOrMore() {
        for (int high = 0; high <= 4; high++) {
            PennyLedge x = piles(high, 0);
            Due.is("stack of " + high, x.jolt(), high >= 2 ? 1 : 0);
            Due.is("left of " + high, x.height(3, 2), high >= 2 ? high - 1 : high);
            Due.is("moved from " + high, x.height(3, 3), high >= 2 ? 1 : 0);
        }
    }

    /** Each of the 42 cells: one COIN goes on, and one alone, also where another could go behind it. */
    private static void joltEachCell() {
        for (int cell = 0; cell < 42; cell++) {
            PennyLedge x = Due.shelf("sides 0;coin;coin;coin;coin");
            for (int coin = 3; coin >= 0; coin--) {
                x.lay(coin, cell / 6, cell % 6);
            }
            Due.is("cell " + cell, x.jolt(), 1);
            Due.is("left in cell " + cell, x.height(cell / 6, cell % 6), 3);
            Due.is("where it went from cell " + cell, x.of(0, 1), cell % 6 == 5 ? 101 : cell / 6 * 10 + cell % 6 + 1);
        }
    }

    /** "none onto a stack of 4": onto 0 to 4. */
    private static void joltOntoFour() {
        for (int next = 0; next <= 4; next++) {
            PennyLedge x = piles(2, next);
            Due.is("onto " + next, x.jolt(), next < 4 ? 1 : 0);
            Due.is("left beside " + next, x.height(3, 2), next < 4 ? 1 : 2);
            Due.is("then " + next, x.height(3, 3), next < 4 ? next + 1 : 4);
        }
    }

    /** "(of ROW 5: it goes over)": 1 to 4, WON and the HOUSE's, whatever the next column has. */
    private static void joltAtTheEdge() {
        for (int high = 1; high <= 4; high++) {
            PennyLedge x = new PennyLedge();
            for (int i = 0; i < high; i++) {
                x.lay(x.coin(1), 3, 5);
                x.lay(x.coin(1), 6, 5);
            }
            for (int i = 0; i < 4; i++) {
                x.lay(x.coin(2), 4, 0);
            }
            Due.is("brings of " + high, x.jolted(), high >= 2 ? 2 : 0);
            Due.is("of " + high, x.jolt(), high >= 2 ? 2 : 0);
            Due.is("WON of " + high, x.now(2), high >= 2 ? 1 << 2 * high - 2 : 0);
            Due.is("the HOUSE's of " + high, x.now(3), high >= 2 ? 1 << 2 * high - 1 : 0);
        }
    }

    /** "the top COIN, if it SLIDES". */
    private static void joltOfKinds() {
        int[] slides = {1, 1, 0, 1, 1, 1, 0};
        for (int kind = 0; kind < 7; kind++) {
            PennyLedge x = Due.shelf("coin at 3 2");
            x.lay(x.coin(kind), 3, 2);
            Due.is("kind " + kind, x.jolt(), slides[kind]);
            Due.is("where it is", x.of(1, 1), 32 + slides[kind]);
        }
    }

    /** "by ROWS from 5 to 0": no COIN goes twice, and a full stack may make room first. */
    private static void joltByRows() {
        PennyLedge x = Due.shelf("coin at 3 3;coin at 3 3;coin at 3 4;coin at 3 5");
        Due.is("one", x.jolt(), 1);
        Due.is("onto row 4 alone", x.of(1, 1), 34);
        PennyLedge y = Due.shelf(Due.times(4, "coin at 3 5"), Due.times(4, "coin at 3 4"), Due.times(4, "coin at 3 3"));
        Due.is("three", y.jolt(), 3);
        Due.is("four again", y.height(3, 5), 4);
        Due.is("four again, too", y.height(3, 4), 4);
        Due.is("three stay", y.height(3, 3), 3);
    }

    private static void joltOfNothing() {
        PennyLedge x = new PennyLedge();
        Due.is("empty", x.jolt(), 0);
        Due.is("brings", x.jolted(), 0);
        Due.is("no finding", x.status(-1), 0);
        Twin.leaves(() -> Due.shelf("coin at 3 3;lead at 4 4;lead at 4 4"), 0, y -> y.jolt());
    }

    /** A jolt is no BEAT, so it comes also when there is none left. */
    private static void joltIsNoBeat() {
        PennyLedge x = Due.shelf("coin;coin");
        Due.toBeat(x, 9999);
        x.lay(0, 3, 5);
        x.lay(1, 3, 5);
        Due.is("brings", x.jolted(), 1);
        Due.is("one", x.jolt(), 1);
        Due.is("BEAT", x.now(0), 9999);
        Due.is("DROPPED", x.now(5), 0);
        Due.is("GAIN", x.now(1), 1);
    }

    private static void joltedChangesNothing() {
        Twin.leaves(Twin::rich, 2, x -> x.jolted());
        Twin.leaves(Twin.far(9999), 0, x -> x.jolted());
    }

    // ---- 33

    private static void strokeBeats() {
        Twin.refuses(Twin::rich, Due.BEYOND,
            x -> x.stroke(0), x -> x.stroke(-1), x -> x.stroke(61), x -> x.stroke(MIN), x -> x.stroke(MAX));
        Twin.leaves(Twin::rich, x -> x.stroke(1), x -> x.stroke(60));
    }

    private static void strokeLate() {
        Twin.leaves(Twin.far(9998), 1, x -> x.stroke(1));
        Twin.leaves(Twin.far(9939), 1, x -> x.stroke(60));
        Twin.refuses(Twin.far(9999), Due.STATE, x -> x.stroke(1));
        Twin.refuses(Twin.far(9940), Due.STATE, x -> x.stroke(60));
        Twin.refuses(Twin.far(9999), Due.BEYOND, x -> x.stroke(0), x -> x.stroke(61));
    }

    /** "STROKE (1 to 6)": from BEAT 1, n BEATS see no push with STROKE above n. */
    private static void strokeFrom1To6() {
        int[] due = {2, 3, 4, 5, 6, 1, 1};
        for (int n = 1; n <= 7; n++) {
            PennyLedge x = Due.shelf("stroke 4;coin", "force 0", RUN);
            x.beats(1);
            x.set(0, 8);
            Due.is("n " + n, x.stroke(n), due[n - 1]);
            Due.is("STROKE stays", x.set(1, 4), 4);
        }
        Due.is("empty", new PennyLedge().stroke(60), 1);
    }

    /** "WORTH of those WON": what becomes the HOUSE's does not count. */
    private static void strokeOfTheHouse() {
        PennyLedge x = Due.shelf("sides 3;force 0", RUN.replace(" 3 ", " 2 "));
        x.beats(1);
        x.set(0, 8);
        Due.is("the HOUSE's", x.stroke(1), 1);
        x.set(2, 2);
        Due.is("WON", x.stroke(1), 2);
    }

    // ---- 34

    private static void forceCoins() {
        Twin.refuses(Twin::rich, Due.BEYOND,
            x -> x.force(-1, 1), x -> x.force(14, 1), x -> x.force(MIN, 1), x -> x.force(MAX, 1));
        Due.is("the first", Due.shelf("coin at 3 5", RUN.replace("big", "token")).force(0, 1), 7);
        Due.is("the last", Due.shelf(RUN).force(5, 1), 7);
    }

    private static void forceBeats() {
        Twin.refuses(Twin::rich, Due.BEYOND,
            x -> x.force(0, 0), x -> x.force(0, -1), x -> x.force(0, 61), x -> x.force(0, MIN), x -> x.force(0, MAX));
        Twin.refuses(Twin::rich, Due.NONE, x -> x.force(0, 1), x -> x.force(0, 60));
        PennyLedge x = Due.shelf("stroke 6;force 0", RUN);
        x.beats(1);
        Due.is("five beats", x.force(5, 5), Due.NONE);
        Due.is("six beats", x.force(5, 6), 7);
        Due.is("sixty beats", x.force(5, 60), 7);
    }

    private static void forceInACellAlone() {
        Twin.refuses(Twin::rich, Due.STATE, x -> x.force(9, 1), x -> x.force(3, 1), x -> x.force(8, 60));
    }

    private static void forceLate() {
        Twin.refuses(Twin.far(9998), Due.NONE, x -> x.force(0, 1));
        Twin.refuses(Twin.far(9939), Due.NONE, x -> x.force(0, 60));
        Twin.refuses(Twin.far(9999), Due.STATE, x -> x.force(0, 1));
        Twin.refuses(Twin.far(9940), Due.STATE, x -> x.force(0, 60));
        Twin.refuses(Twin.far(9999), Due.BEYOND, x -> x.force(0, 0), x -> x.force(0, 61), x -> x.force(6, 1));
    }

    /** "The least FORCE (0 to 60)": 0, what the run weighs, 60, and 61, which is too much. */
    private static void forceFrom0To60() {
        Twin.leaves(() -> Due.shelf("force 9", Due.times(3, "coin at 3 5")), 0, x -> x.force(2, 1));
        Twin.leaves(() -> Due.shelf("force 9", RUN), 7, x -> x.force(5, 1));
        PennyLedge x = new PennyLedge();
        for (int i = 0; i < 12; i++) {
            x.lay(x.coin(2), 3, i % 6);
        }
        Due.is("60", x.force(5, 1), 60);
        x.lay(x.coin(5), 3, 0);
        Due.is("61", x.force(5, 60), Due.NONE);
        Due.is("goes over to the HOUSE", Due.shelf(RUN.replace(" 3 ", " 6 ")).force(5, 1), 7);
    }

    // ---- 35

    private static void kindForCoins() {
        Twin.refuses(Twin::rich, Due.BEYOND,
            x -> x.kindFor(-1, 1), x -> x.kindFor(14, 1), x -> x.kindFor(MIN, 1), x -> x.kindFor(MAX, 1));
        Due.is("the first", Due.shelf(RUN).kindFor(0, 1), 0);
        Due.is("the last", Due.shelf(RUN).kindFor(5, 1), 0);
    }

    private static void kindForBeats() {
        Twin.refuses(Twin::rich, Due.BEYOND, x -> x.kindFor(0, 0), x -> x.kindFor(0, -1), x -> x.kindFor(0, 61),
            x -> x.kindFor(0, MIN), x -> x.kindFor(0, MAX));
        Twin.leaves(Twin::rich, 0, x -> x.kindFor(0, 1));
        Twin.leaves(Twin::rich, 0, x -> x.kindFor(4, 60));
    }

    private static void kindForOnTheShelfAlone() {
        Twin.refuses(Twin::rich, Due.STATE, x -> x.kindFor(9, 1), x -> x.kindFor(3, 1), x -> x.kindFor(8, 60));
    }

    private static void kindForLate() {
        Twin.leaves(Twin.far(9998), 0, x -> x.kindFor(0, 1));
        Twin.leaves(Twin.far(9939), 0, x -> x.kindFor(0, 60));
        Twin.refuses(Twin.far(9999), Due.STATE, x -> x.kindFor(0, 1));
        Twin.refuses(Twin.far(9940), Due.STATE, x -> x.kindFor(0, 60));
        Twin.refuses(Twin.far(9999), Due.BEYOND, x -> x.kindFor(0, 0), x -> x.kindFor(0, 61), x -> x.kindFor(6, 1));
    }

    /** "WORTH of others": were its own counted, a watch would be the most. */
    private static void kindForOthers() {
        PennyLedge x = Due.shelf("force 60", RUN);
        Due.is("at the edge", x.kindFor(5, 1), 0);
        x.change(5, 6);
        Due.is("of lead", x.kindFor(5, 1), 0);
        PennyLedge y = Due.shelf("coin at 3 5;coin at 3 5;coin at 3 5");
        Due.is("slides over", y.kindFor(2, 1), 0);
    }

    // ---- 36

    private static void seedOfAnyInt() {
        PennyLedge x = new PennyLedge();
        Due.is("1 at first", x.seed(MIN), 1);
        Due.is("the least", x.seed(MAX), MIN);
        Due.is("the greatest", x.seed(0), MAX);
        Due.is("0", x.seed(-1), 0);
        Due.is("count(6)", x.count(6), -1);
        Due.is("no finding", x.status(-1), 0);
    }
}
