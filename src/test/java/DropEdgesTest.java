/** Promises 20 to 26: a test for each sentence that names a bound. */
public final class DropEdgesTest {
    private static final int MIN = Integer.MIN_VALUE;
    private static final int MAX = Integer.MAX_VALUE;

    public static void main(String[] args) throws Exception {
        Due.each(DropEdgesTest.class);
    }

    /** A big one (coin 4) at the edge of a column: whatever comes onto row 0 completes the run, of weight 7. */
    private static String restOfRun(int column) {
        String at = " at " + column + " ";
        return "coin" + at + "1;coin" + at + "2;coin" + at + "3;coin" + at + "4;big" + at + "5";
    }

    // ---- 20

    private static void bringsCoins() {
        Twin.refuses(Twin::rich, Due.BEYOND,
            x -> x.brings(-1, 0, 0), x -> x.brings(14, 0, 0), x -> x.brings(MIN, 0, 0), x -> x.brings(MAX, 0, 0));
        Twin.leaves(Twin::rich, -1, x -> x.brings(13, 0, 0));
    }

    private static void bringsColumns() {
        Twin.refuses(Twin::rich, Due.BEYOND,
            x -> x.brings(9, -1, 0), x -> x.brings(9, 7, 0), x -> x.brings(9, MIN, 0), x -> x.brings(9, MAX, 0));
        for (int column = 0; column < 7; column++) {
            PennyLedge x = Due.shelf("sides 0;coin", restOfRun(column));
            for (int other = 0; other < 7; other++) {
                Due.is("run " + column + ", column " + other, x.brings(0, other, 0), other == column ? 1 : -1);
            }
        }
    }

    private static void bringsBeats() {
        Twin.refuses(Twin::rich, Due.BEYOND,
            x -> x.brings(9, 0, -1), x -> x.brings(9, 0, 21), x -> x.brings(9, 0, MIN), x -> x.brings(9, 0, MAX));
        Twin.leaves(Twin::rich, x -> x.brings(9, 0, 0), x -> x.brings(9, 6, 20));
        PennyLedge x = Due.shelf("coin", restOfRun(3), "stroke 6");
        for (int n = 0; n <= 20; n++) {
            Due.is("n " + n + ", at BEAT 0", x.brings(0, 3, n), 1);
        }
        x.beats(2);
        for (int n = 0; n <= 20; n++) {
            Due.is("n " + n + ", BEAT 6 pushes", x.brings(0, 3, n), n < 4 ? -1 : 1);
        }
    }

    /** "How much more GAIN is": not GAIN as such, be it above or below 0. */
    private static void bringsMoreThanNow() {
        PennyLedge x = Due.shelf("coin;coin;coin;coin", restOfRun(3));
        x.change(0, 4);
        Due.is("bent: too heavy", x.drop(0, 3), -1);
        Due.is("GAIN below 0", x.now(1), -1);
        Due.is("brings", x.brings(1, 0, 20), -1);
        Due.is("three bring", x.threeBring(20), -3);
        PennyLedge y = Due.shelf("coin;coin;coin;coin", restOfRun(3));
        y.change(8, 2);
        y.set(0, 10);
        y.drop(0, 3);
        Due.is("GAIN above 0", y.now(1), 49);
        Due.is("brings then", y.brings(1, 0, 20), -1);
        Due.is("three bring then", y.threeBring(0), -2);
    }

    private static void bringsFromTheHandAlone() {
        Twin.refuses(Twin::rich, Due.STATE,
            x -> x.brings(0, 0, 0), x -> x.brings(3, 0, 0), x -> x.brings(8, 0, 0));
    }

    private static void bringsLate() {
        Twin.leaves(Twin.far(9900), -1, x -> x.brings(2, 0, 20));
        Twin.refuses(Twin.far(9901), Due.STATE, x -> x.brings(2, 0, 0), x -> x.brings(2, 0, 20));
        Twin.refuses(Twin.far(9999), Due.STATE, x -> x.brings(2, 0, 0));
    }

    private static void bringsBeyondAheadOfState() {
        Twin.refuses(Twin.far(9901), Due.BEYOND,
            x -> x.brings(6, 0, 0), x -> x.brings(2, 7, 0), x -> x.brings(2, 0, 21), x -> x.brings(0, 7, 0));
    }

    // ---- 21

    private static void bestCoins() {
        Twin.refuses(Twin::rich, Due.BEYOND,
            x -> x.best(-1, 0), x -> x.best(14, 0), x -> x.best(MIN, 0), x -> x.best(MAX, 0));
        Twin.leaves(Twin::rich, x -> x.best(9, 0), x -> x.best(13, 20));
    }

    private static void bestBeats() {
        Twin.refuses(Twin::rich, Due.BEYOND,
            x -> x.best(9, -1), x -> x.best(9, 21), x -> x.best(9, MIN), x -> x.best(9, MAX));
        PennyLedge x = Due.shelf("coin", restOfRun(3), "stroke 6");
        x.beats(2);
        for (int n = 0; n <= 20; n++) {
            Due.is("n " + n, x.best(0, n), n < 4 ? 0 : 3);
        }
    }

    private static void bestColumns() {
        for (int column = 0; column < 7; column++) {
            Due.is("column " + column, Due.shelf("sides 0;coin", restOfRun(column)).best(0, 0), column);
        }
    }

    private static void bestState() {
        Twin.refuses(Twin::rich, Due.STATE, x -> x.best(0, 0), x -> x.best(3, 0), x -> x.best(8, 0));
        Twin.leaves(Twin.far(9900), 0, x -> x.best(2, 20));
        Twin.refuses(Twin.far(9901), Due.STATE, x -> x.best(2, 0));
        Twin.refuses(Twin.far(9901), Due.BEYOND, x -> x.best(6, 0), x -> x.best(2, 21), x -> x.best(0, -1));
    }

    private static void bestOfSeveral() {
        PennyLedge x = Due.shelf("coin", restOfRun(2), restOfRun(4));
        Due.is("two alike", x.best(0, 0), 2);
        x.change(5, 0);
        Due.is("the other is more", x.best(0, 0), 4);
        Due.is("all lose alike", Due.shelf("coin").best(0, 20), 0);
    }

    // ---- 22

    private static void waitCoins() {
        Twin.refuses(Twin::rich, Due.BEYOND,
            x -> x.wait(-1, 0), x -> x.wait(14, 0), x -> x.wait(MIN, 0), x -> x.wait(MAX, 0));
        Twin.leaves(Twin::rich, x -> x.wait(9, 0), x -> x.wait(13, 20));
    }

    private static void waitBeats() {
        Twin.refuses(Twin::rich, Due.BEYOND,
            x -> x.wait(9, -1), x -> x.wait(9, 21), x -> x.wait(9, MIN), x -> x.wait(9, MAX));
        PennyLedge x = Due.shelf("coin", restOfRun(3), "stroke 6");
        x.beats(1);
        int[] due = {53, 53, 33, 33, 13, 13, 13};
        for (int n = 0; n <= 6; n++) {
            Due.is("n " + n, x.wait(0, n), due[n]);
        }
        Due.is("n 20", x.wait(0, 20), 13);
    }

    /**
     * "How many BEATS (0 to 11)": BEAT 10 closes the gap, so that a drop at BEAT 20 alone wins (BEAT 15 is odd): behind
     * 10, 11, and behind 12, which are too many.
     */
    private static void waitAtMost11() {
        int[] beats = {10, 9, 8};
        int[] due = {103, 113, 0};
        for (int i = 0; i < beats.length; i++) {
            PennyLedge x = Due.shelf("coin", "stroke 5;force 0;coin at 3 0;coin at 3 1;coin at 3 3;coin at 3 4;big at 3 5");
            Due.toBeat(x, beats[i]);
            x.set(0, 8);
            Due.is("from BEAT " + beats[i], x.wait(0, 0), due[i]);
        }
    }

    private static void waitColumns() {
        for (int column = 0; column < 7; column++) {
            PennyLedge x = Due.shelf("sides 0;coin", restOfRun(column));
            Due.is("at once, column " + column, x.wait(0, 0), column);
            x.beats(1);
            Due.is("behind one, column " + column, x.wait(0, 0), 10 + column);
        }
    }

    private static void waitState() {
        Twin.refuses(Twin::rich, Due.STATE, x -> x.wait(0, 0), x -> x.wait(3, 0), x -> x.wait(8, 0));
        Twin.leaves(Twin.far(9900), 0, x -> x.wait(2, 20));
        Twin.refuses(Twin.far(9901), Due.STATE, x -> x.wait(2, 0));
        Twin.refuses(Twin.far(9901), Due.BEYOND, x -> x.wait(6, 0), x -> x.wait(2, 21), x -> x.wait(0, -1));
    }

    /** "of several the first so": the fewest beats, then the least column. */
    private static void waitOfSeveral() {
        PennyLedge x = Due.shelf("coin", restOfRun(2), restOfRun(4));
        Due.is("columns 2 and 4, beats 0, 2, ..", x.wait(0, 0), 2);
        x.beats(1);
        Due.is("columns 2 and 4, beats 1, 3, ..", x.wait(0, 0), 12);
        Due.is("nothing helps", Due.shelf("coin").wait(0, 20), 0);
    }

    // ---- 23, 24

    private static void threeBeats() {
        Twin.refuses(Twin::rich, Due.BEYOND, x -> x.three(-1), x -> x.three(21), x -> x.three(MIN), x -> x.three(MAX));
        Twin.refuses(Twin::rich, Due.BEYOND,
            x -> x.threeBring(-1), x -> x.threeBring(21), x -> x.threeBring(MIN), x -> x.threeBring(MAX));
        Twin.leaves(Twin::rich, x -> x.three(0), x -> x.three(20), x -> x.threeBring(0), x -> x.threeBring(20));
        PennyLedge x = Due.shelf("coin;coin;coin", restOfRun(3), "stroke 6");
        x.beats(1);
        for (int n = 0; n <= 20; n++) {
            Due.is("n " + n, x.three(n), n < 3 ? 0 : 30);
            Due.is("brings, n " + n, x.threeBring(n), n < 3 ? -3 : -1);
        }
    }

    private static void threeOrAsManyAsThereAre() {
        PennyLedge x = Due.shelf("coin;coin;coin");
        Due.is("three", x.three(0), 0);
        Due.is("three bring", x.threeBring(0), -3);
        Twin.refuses(() -> Due.shelf("coin;coin;coin at 3 3"), Due.STATE, y -> y.three(0), y -> y.threeBring(0));
        Twin.refuses(PennyLedge::new, Due.STATE, y -> y.three(0), y -> y.threeBring(20));
    }

    private static void threeLate() {
        Twin.leaves(Twin.far(9900), 0, x -> x.three(20));
        Twin.leaves(Twin.far(9900), -3, x -> x.threeBring(20));
        Twin.refuses(Twin.far(9901), Due.STATE, x -> x.three(0), x -> x.threeBring(0));
        Twin.refuses(Twin.far(9999), Due.STATE, x -> x.three(0), x -> x.threeBring(0));
    }

    private static void threeBeyondAheadOfState() {
        Twin.refuses(Twin.far(9901), Due.BEYOND, x -> x.three(21), x -> x.threeBring(-1));
        Twin.refuses(PennyLedge::new, Due.BEYOND, x -> x.three(-1), x -> x.threeBring(21));
    }

    /** "the COLUMNS (three digits, the first foremost)": BEATS 0 and 2 push, what comes at BEAT 1 is on row 1. */
    private static void threeDigits() {
        for (int column = 0; column < 7; column++) {
            PennyLedge x = Due.shelf("sides 0;coin;coin;coin", restOfRun(column));
            Due.is("column " + column, x.three(0), 101 * column);
            Due.is("brings", x.threeBring(0), -3 + 2 + 1);
            x.beats(1);
            Due.is("the second one, column " + column, x.three(0), 10 * column);
        }
    }

    /**
     * The one way that is most: BEAT 3 alone pushes, column a lacks rows 0 and 1, and column b row 1, where lead (the
     * first of the three) would be too heavy.
     */
    private static void threeByOneWayAlone() {
        int[][] columns = {{0, 1}, {6, 5}, {3, 2}, {2, 3}};
        for (int[] c : columns) {
            String a = " at " + c[0] + " ";
            String b = " at " + c[1] + " ";
            PennyLedge x = Due.shelf("force 0;sides 0;stroke 3;lead;coin;coin",
                "coin" + a + "2;coin" + a + "3;coin" + a + "4;big" + a + "5",
                "coin" + b + "0;coin" + b + "2;coin" + b + "3;big" + b + "4;big" + b + "5");
            x.beats(1);
            x.set(0, 9);
            Due.is("the way", x.three(0), 110 * c[0] + c[1]);
            Due.is("brings", x.threeBring(0), 2 + 2 - 3);
        }
    }

    private static void threeOfSeveral() {
        PennyLedge x = Due.shelf("coin;coin;coin", restOfRun(2), restOfRun(4));
        Due.is("first 2, then 4, rather than 4, then 2", x.three(0), 204);
        Due.is("what they bring", x.threeBring(0), 1);
        Due.is("all lose alike", Due.shelf("coin;coin;coin").three(20), 0);
    }

    // ---- 25, 26

    private static void soonestCoins() {
        Twin.refuses(Twin::rich, Due.BEYOND,
            x -> x.soonest(-1), x -> x.soonest(14), x -> x.soonest(MIN), x -> x.soonest(MAX));
        Twin.refuses(Twin::rich, Due.BEYOND,
            x -> x.firstFor(-1), x -> x.firstFor(14), x -> x.firstFor(MIN), x -> x.firstFor(MAX));
    }

    private static void soonestLate() {
        Twin.refuses(Twin.far(9900), Due.NONE, x -> x.soonest(0), x -> x.firstFor(0));
        Twin.refuses(Twin.far(9901), Due.STATE, x -> x.soonest(0), x -> x.firstFor(0));
        Twin.refuses(Twin.far(9901), Due.BEYOND, x -> x.soonest(6), x -> x.firstFor(-1));
    }

    /** "The fewest DROPS (0 to 3)": 0 for what is WON already, even late and with none in the hand. */
    private static void soonestByNone() {
        Twin.leaves(Twin::rich, 0, x -> x.soonest(3));
        Twin.refuses(Twin::rich, Due.NONE, x -> x.firstFor(3));
        PennyLedge x = Due.shelf(Due.times(3, "coin at 3 5"));
        x.beats(1);
        Due.is("none in the hand", x.soonest(2), 0);
        Due.is("none in the hand, the first", x.firstFor(2), Due.NONE);
        Due.toBeat(x, 9901);
        Due.is("BEAT 9901", x.soonest(2), Due.STATE);
        Due.is("BEAT 9901, the first", x.firstFor(2), Due.STATE);
    }

    /** BEAT 6 alone pushes: that is 1, 2, 3 drops ahead, and 4, which are too many. */
    private static void soonestByOneToFour() {
        int[] beats = {6, 5, 4, 3};
        int[] drops = {1, 2, 3, Due.NONE};
        int[] firsts = {3, 0, 0, Due.NONE};
        for (int i = 0; i < beats.length; i++) {
            PennyLedge x = Due.shelf("coin;coin;coin;coin;coin", restOfRun(3), "stroke 6");
            Due.toBeat(x, beats[i]);
            Due.is("from BEAT " + beats[i], x.soonest(9), drops[i]);
            Due.is("the first from BEAT " + beats[i], x.firstFor(9), firsts[i]);
        }
    }

    /** "NONE: .. as many as there are": what needs three is not to be had by two, nor what needs one by none. */
    private static void soonestAsManyAsThereAre() {
        for (int hand = 0; hand <= 3; hand++) {
            PennyLedge x = Due.shelf(restOfRun(3), "stroke 6");
            for (int i = 0; i < hand; i++) {
                x.coin(0);
            }
            Due.toBeat(x, 4);
            Due.is("three needed, hand " + hand, x.soonest(4), hand < 3 ? Due.NONE : 3);
            Due.is("the first, hand " + hand, x.firstFor(4), hand < 3 ? Due.NONE : 0);
        }
        for (int hand = 0; hand <= 1; hand++) {
            PennyLedge x = Due.shelf(restOfRun(3));
            for (int i = 0; i < hand; i++) {
                x.coin(0);
            }
            Due.is("one needed, hand " + hand, x.soonest(4), hand < 1 ? Due.NONE : 1);
            Due.is("the first, hand " + hand, x.firstFor(4), hand < 1 ? Due.NONE : 3);
        }
    }

    private static void firstForColumns() {
        for (int column = 0; column < 7; column++) {
            PennyLedge x = Due.shelf("sides 0;coin", restOfRun(column));
            Due.is("column " + column, x.firstFor(5), column);
        }
        Twin.leaves(() -> Due.shelf("sides 0;coin", restOfRun(6)), 6, x -> x.firstFor(5));
        Twin.leaves(() -> Due.shelf("sides 0;coin", restOfRun(6)), 1, x -> x.soonest(5));
    }

    /** The first of three: BEATS 0 and 2 push, and what lies on row 4 needs both. */
    private static void firstForOfThree() {
        for (int column = 0; column < 7; column++) {
            PennyLedge x = Due.shelf("sides 0;coin;coin;coin", restOfRun(column));
            Due.is("soonest, column " + column, x.soonest(6), 3);
            Due.is("firstFor, column " + column, x.firstFor(6), column);
            Due.is("not with three, column " + column, x.soonest(5), Due.NONE);
        }
    }

    /** "is WON": not the HOUSE's. */
    private static void soonestOfTheHouse() {
        PennyLedge x = Due.shelf("coin;coin;coin", restOfRun(0));
        Due.is("the HOUSE's", x.soonest(7), Due.NONE);
        Due.is("the first", x.firstFor(7), Due.NONE);
        x.set(2, 0);
        Due.is("WON", x.soonest(7), 1);
    }

    /** The COIN that is asked for may be among those DROPPED; it cannot be WON by three from row 0 or 1. */
    private static void soonestOfOneInTheHand() {
        PennyLedge x = Due.shelf("coin;coin;coin;coin");
        Due.is("in the hand", x.soonest(0), Due.NONE);
        Due.is("in the hand, the last", x.soonest(3), Due.NONE);
    }
}
