/** Promises 27 to 30: a test for each sentence that names a bound. */
public final class ChanceEdgesTest {
    private static final int MIN = Integer.MIN_VALUE;
    private static final int MAX = Integer.MAX_VALUE;
    /** A big one (coin 4) at the edge: whatever comes onto row 0 completes the run, of weight 7. */
    private static final String REST_OF_RUN = "coin at 3 1;coin at 3 2;coin at 3 3;coin at 3 4;big at 3 5";

    public static void main(String[] args) throws Exception {
        Due.each(ChanceEdgesTest.class);
    }

    private static PennyLedge hand(int coins) {
        PennyLedge x = Due.shelf(REST_OF_RUN);
        for (int i = 0; i < coins; i++) {
            x.coin(0);
        }
        return x;
    }

    // ---- 27

    private static void waysOfCoins() {
        Twin.refuses(Twin::rich, Due.BEYOND,
            x -> x.ways(-1, 0), x -> x.ways(4, 0), x -> x.ways(MIN, 0), x -> x.ways(MAX, 0));
        int[] all = {1, 7, 49, 343};
        for (int k = 0; k <= 3; k++) {
            int asked = k;
            Twin.leaves(() -> hand(3), all[k], x -> x.ways(asked, -99));
            Due.is("k " + k + ", v 999", hand(3).ways(k, 999), 0);
        }
    }

    private static void waysOfGains() {
        Twin.refuses(Twin::rich, Due.BEYOND,
            x -> x.ways(0, -100), x -> x.ways(0, 1000), x -> x.ways(0, MIN), x -> x.ways(0, MAX));
        Twin.leaves(Twin::rich, x -> x.ways(3, -99), x -> x.ways(3, 999));
    }

    /** "in how many GAIN is v or more": just below, at, and just above it. */
    private static void waysOfVOrMore() {
        long[][] due = {{1, 1, 0, 0, 0}, {7, 7, 1, 1, 0}, {49, 49, 7, 0, 0}, {343, 343, 7, 0, 0}};
        int[] most = {-1, -1, -2, -3};
        for (int k = 0; k <= 3; k++) {
            PennyLedge x = hand(3);
            Due.is("k " + k + ", all", x.ways(k, most[k] - 1), due[k][0]);
            Due.is("k " + k + ", all still", x.ways(k, most[k]), due[k][1]);
        }
        PennyLedge x = hand(3);
        Due.is("GAIN 0 by none", x.ways(0, 0), 1);
        Due.is("not 1", x.ways(0, 1), 0);
        Due.is("0 by one", x.ways(1, 0), due[1][2]);
        Due.is("1 by one", x.ways(1, 1), due[1][3]);
        Due.is("not 2", x.ways(1, 2), due[1][4]);
        Due.is("0 by two", x.ways(2, 0), due[2][2]);
        Due.is("not 1 by two", x.ways(2, 1), due[2][3]);
        Due.is("0 by three: BEATS 0 and 2", x.ways(3, 0), due[3][2]);
        Due.is("not 1 by three", x.ways(3, 1), due[3][3]);
    }

    /** "v -99": a GAIN of -99 is, one of -100 is not. */
    private static void waysOfLeast() {
        PennyLedge x = Due.shelf("force 0;coin");
        for (int beat = 0; beat < 99; beat++) {
            x.drop(0, 3);
            x.lift(3, beat % 2);
        }
        Due.is("GAIN", x.now(1), -99);
        Due.is("-99", x.ways(0, -99), 1);
        Due.is("not -98", x.ways(0, -98), 0);
        Due.is("none by one more", x.ways(1, -99), 0);
        x.drop(0, 3);
        Due.is("GAIN then", x.now(1), -100);
        Due.is("-100", x.ways(0, -99), 0);
    }

    /** "to 999": a GAIN of 999 is, one of 998 is not. */
    private static void waysOfMost() {
        PennyLedge x = Due.shelf("force 0;sides 0;coin;coin");
        for (int i = 0; i < 20; i++) {
            x.lay(x.coin(0), i % 5, 5);
        }
        x.beats(2);
        x.jolt();
        for (int left = 1; left < 5; left++) {
            x.lay(x.lift(left, 5), 6, 5);
            x.jolt();
        }
        x.lay(x.lift(0, 5), 6, 5);
        x.jolt();
        x.lay(x.coin(0), 6, 5);
        x.jolt();
        Due.is("WON", Integer.bitCount(x.now(2)), 20);
        for (int coin = 0; coin < 23; coin++) {
            if (x.of(coin, 1) == 101) {
                x.change(coin, 2);
            }
        }
        x.drop(0, 0);
        Due.is("GAIN", x.now(1), 999);
        Due.is("999", x.ways(0, 999), 1);
        Due.is("998 by one more", x.ways(1, 999), 0);
        Due.is("that is 998 or more", x.ways(1, 998), 7);
    }

    private static void waysOrFewer() {
        for (int k = 1; k <= 3; k++) {
            int asked = k;
            Twin.refuses(() -> hand(asked - 1), Due.STATE, x -> x.ways(asked, 0));
            Due.is("as many as there are", hand(k).ways(k, -99) > 0 ? 1 : 0, 1);
        }
        Due.is("none of none", hand(0).ways(0, 0), 1);
        Due.is("without any coin", new PennyLedge().ways(0, 0), 1);
    }

    private static void waysLate() {
        Twin.leaves(Twin.far(9900), 343, x -> x.ways(3, -99));
        Twin.refuses(Twin.far(9901), Due.STATE, x -> x.ways(0, 0), x -> x.ways(3, 0));
        Twin.refuses(Twin.far(9901), Due.BEYOND, x -> x.ways(4, 0), x -> x.ways(0, 1000), x -> x.ways(0, -100));
        Twin.refuses(PennyLedge::new, Due.BEYOND, x -> x.ways(1, 1000), x -> x.ways(4, 0));
    }

    // ---- 28

    private static void totalOfCoins() {
        Twin.refuses(Twin::rich, Due.BEYOND, x -> x.total(-1), x -> x.total(4), x -> x.total(MIN), x -> x.total(MAX));
        long[] due = {0, -7 + 2, 49 * -2 + 14, 343 * -3 + 49 * 2 * 2 - 7 * 4 + 7 * 3};
        for (int k = 0; k <= 3; k++) {
            int asked = k;
            Twin.leaves(() -> hand(3), due[k], x -> x.total(asked));
        }
    }

    /** "How much more GAIN is .. than now": not GAIN as such. */
    private static void totalMoreThanNow() {
        PennyLedge x = Due.shelf("force 0;coin;coin", Due.times(3, "watch at 3 5"));
        x.change(4, 0);
        x.beats(1);
        x.change(4, 2);
        Due.is("GAIN", x.now(1), 50);
        Due.is("none", x.total(0), 0);
        Due.is("one", x.total(1), -7);
        Due.is("two", x.total(2), -98);
    }

    private static void totalOrFewer() {
        for (int k = 1; k <= 3; k++) {
            int asked = k;
            Twin.refuses(() -> hand(asked - 1), Due.STATE, x -> x.total(asked));
        }
        Due.is("none of none", new PennyLedge().total(0), 0);
    }

    private static void totalLate() {
        Twin.leaves(Twin.far(9900), -1029, x -> x.total(3));
        Twin.refuses(Twin.far(9901), Due.STATE, x -> x.total(0), x -> x.total(3));
        Twin.refuses(Twin.far(9901), Due.BEYOND, x -> x.total(4), x -> x.total(-1));
        Twin.refuses(PennyLedge::new, Due.BEYOND, x -> x.total(4));
    }

    // ---- 29

    private static void luckOfCoins() {
        Twin.refuses(Twin::rich, Due.BEYOND,
            x -> x.luck(-1, 0), x -> x.luck(14, 0), x -> x.luck(MIN, 0), x -> x.luck(MAX, 0),
            x -> x.luck(0, -1), x -> x.luck(0, 4), x -> x.luck(0, MIN), x -> x.luck(0, MAX));
        int[] due = {0, 1, 7, 49 + 49 - 7};
        for (int k = 0; k <= 3; k++) {
            int asked = k;
            Twin.leaves(() -> hand(3), due[k], x -> x.luck(4, asked));
        }
        Due.is("the first coin", hand(3).luck(0, 3), 0);
        Due.is("the last coin", hand(3).luck(7, 3), 0);
    }

    /** A COIN that is WON is so in all of them; one of the HOUSE's in none. */
    private static void luckOfWon() {
        int[] all = {1, 7, 49, 343};
        for (int k = 0; k <= 3; k++) {
            int asked = k;
            Twin.leaves(Twin::rich, all[k], x -> x.luck(3, asked));
            Twin.leaves(Twin::rich, 0, x -> x.luck(8, asked));
        }
    }

    private static void luckOrFewer() {
        for (int k = 1; k <= 3; k++) {
            int asked = k;
            Twin.refuses(() -> hand(asked - 1), Due.STATE, x -> x.luck(4, asked));
        }
        Due.is("none of none", hand(0).luck(4, 0), 0);
    }

    private static void luckLate() {
        Twin.leaves(Twin.far(9900), 0, x -> x.luck(0, 3));
        Twin.refuses(Twin.far(9901), Due.STATE, x -> x.luck(0, 0), x -> x.luck(0, 3));
        Twin.refuses(Twin.far(9901), Due.BEYOND, x -> x.luck(6, 0), x -> x.luck(0, 4), x -> x.luck(-1, 0));
        Twin.refuses(() -> hand(0), Due.BEYOND, x -> x.luck(4, 4), x -> x.luck(5, 1));
    }

    // ---- 30

    private static void playMany() {
        Twin.refuses(Twin::rich, Due.BEYOND,
            x -> x.play(0), x -> x.play(13), x -> x.play(-1), x -> x.play(MIN), x -> x.play(MAX));
        for (int n = 1; n <= 12; n++) {
            PennyLedge x = Due.shelf("force 0", Due.times(13, "coin"));
            Due.is("n " + n, x.play(n), -n);
            Due.is("BEAT", x.now(0), n);
            Due.is("DROPPED", x.now(5), n);
            Due.is("those of least numbers", x.now(4), 0x1fff & -(1 << n));
        }
    }

    /** "what GAIN is more": not GAIN as such, be it above or below 0. */
    private static void playMoreThanNow() {
        PennyLedge x = Due.shelf("force 0;coin;coin;coin;coin;coin");
        Due.is("two", x.play(2), -2);
        Due.is("GAIN below 0", x.now(1), -2);
        Due.is("two more", x.play(2), -2);
        PennyLedge y = Due.shelf("force 0;coin", Due.times(3, "big at 3 5"));
        y.beats(1);
        Due.is("GAIN above 0", y.now(1), 2);
        Due.is("one", y.play(1), -1);
    }

    private static void playOrFewer() {
        for (int n = 1; n <= 12; n++) {
            int asked = n;
            Twin.refuses(() -> hand(asked - 1), Due.STATE, x -> x.play(asked));
            Due.is("as many as there are", Due.shelf(Due.times(n, "coin"), "force 0").play(n), -n);
        }
    }

    private static void playLate() {
        PennyLedge x = Twin.far(9900).get();
        Due.is("BEAT 9900", x.play(4), -4);
        Due.is("BEAT then", x.now(0), 9904);
        Twin.refuses(Twin.far(9901), Due.STATE, y -> y.play(1), y -> y.play(12));
        Twin.refuses(Twin.far(9901), Due.BEYOND, y -> y.play(0), y -> y.play(13));
        Twin.refuses(PennyLedge::new, Due.BEYOND, y -> y.play(13));
        PennyLedge twelve = Due.shelf(Due.times(12, "coin"), "force 0");
        Due.toBeat(twelve, 9900);
        Due.is("twelve at BEAT 9900", twelve.play(12), -12);
    }

    /** "each in the COLUMN that is the rest of a draw by 7": all seven come, one draw for each COIN. */
    private static void playColumns() {
        int columns = 0;
        int z = 1;
        for (int i = 0; i < 40; i++) {
            PennyLedge x = Due.shelf("force 0;coin");
            Due.is("seed", x.seed(z), 1);
            x.play(1);
            z = z * 1103515245 + 12345;
            Due.is("one draw", x.count(6), z);
            Due.is("column", x.of(0, 1), 10 * ((z >>> 8) % 7));
            columns |= 1 << (z >>> 8) % 7;
        }
        Due.is("all columns", columns, 127);
    }
}
