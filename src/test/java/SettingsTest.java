/** Promises 31 to 36. */
public final class SettingsTest {
    private static final String RUN = "coin at 3 0;coin at 3 1;coin at 3 2;coin at 3 3;coin at 3 4;big at 3 5";

    public static void main(String[] args) {
        jolt();
        joltBlocked();
        stroke();
        force();
        kindFor();
        bounds();
        seed();
        Due.end();
    }

    private static void jolt() {
        PennyLedge x = Due.shelf("coin at 3 5;big at 3 5;coin at 0 5;crown at 0 5;coin at 2 1;bent at 2 1;coin at 5 5");
        Due.is("32: the big one", x.jolted(), 2);
        Due.is("32: nothing changes", x.of(1, 1), 35);
        Due.is("31: three", x.jolt(), 3);
        Due.is("31: WON", x.of(1, 1), 101);
        Due.is("31: the house's", x.of(3, 1), 102);
        Due.is("31: a row on", x.of(5, 1), 22);
        Due.is("31: no beat", x.now(0), 0);
        Due.is("31: a lone coin stays", x.of(6, 1), 55);
        Due.is("31: nothing left to jolt", x.jolt(), 0);
        Due.is("32: nothing left to win, what is WON does not count", x.jolted(), 0);
        PennyLedge firm = Due.shelf("coin at 3 5;watch at 3 5;coin at 2 5;lead at 2 5;coin at 4 5;token at 4 5");
        Due.is("31: watch and lead stay", firm.jolt(), 1);
        Due.is("31: the token is WON", firm.now(2), 32);
    }

    private static void joltBlocked() {
        PennyLedge x = Due.shelf("coin at 3 2;coin at 3 2", Due.times(4, "watch at 3 3"));
        Due.is("31: none onto four", x.jolt(), 0);
        PennyLedge y = Due.shelf("coin at 3 2;coin at 3 2", Due.times(4, "coin at 3 3"));
        Due.is("31: the next row's goes first", y.jolt(), 2);
        Due.is("31: so there is room", y.height(3, 3), 4);
        Due.is("31: and one further on", y.height(3, 4), 1);
        PennyLedge z = Due.shelf("coin at 3 2;coin at 3 2", Due.times(3, "watch at 3 3"));
        Due.is("31: onto three", z.jolt(), 1);
        PennyLedge row = Due.shelf("coin at 3 0;coin at 3 0;coin at 3 1");
        Due.is("31: what came onto a stack does not go on", row.jolt(), 1);
        Due.is("31: it is on row 1", row.of(1, 1), 31);
    }

    private static void stroke() {
        PennyLedge x = Due.shelf(RUN);
        Due.is("33: BEAT 0 pushes with any", x.stroke(1), 1);
        PennyLedge odd = Due.shelf("force 0", RUN);
        odd.beats(1);
        odd.set(0, 8);
        Due.is("33: BEAT 1 with 1 alone", odd.stroke(1), 2);
        Due.is("33: BEATS 1 and 2", odd.stroke(2), 3);
        Due.is("33: BEATS 1 to 4", odd.stroke(4), 5);
        Due.is("33: BEATS 1 to 5", odd.stroke(5), 6);
        Due.is("33: BEATS 1 to 6", odd.stroke(6), 1);
        Due.is("33: STROKE stays", odd.set(1, 2), 2);
        odd.set(2, 3);
        odd.lift(3, 5);
        Due.is("33: nothing WON", odd.stroke(1), 1);
        Due.is("33: n 60", x.stroke(60), 1);
        Due.is("33: n 0", x.stroke(0), Due.BEYOND);
        Due.is("33: n -1", x.stroke(-1), Due.BEYOND);
        Due.is("33: n 61", x.stroke(61), Due.BEYOND);
    }

    private static void force() {
        PennyLedge x = Due.shelf(RUN, "coin;force 0", "coin at 4 5;coin at 4 5;coin at 4 5", "coin at 0 5;coin at 0 5;coin at 0 5");
        Due.is("34: what the run weighs", x.force(5, 1), 7);
        Due.is("34: never so far", x.force(4, 60), Due.NONE);
        Due.is("34: slides by itself", x.force(9, 1), 0);
        Due.is("34: to the house too", x.force(12, 1), 0);
        Due.is("34: FORCE stays", x.set(0, 0), 0);
        Due.is("34: in the hand", x.force(6, 1), Due.STATE);
        Due.is("34: no coin", x.force(13, 1), Due.BEYOND);
        Due.is("34: coin -1", x.force(-1, 1), Due.BEYOND);
        Due.is("34: n 0", x.force(5, 0), Due.BEYOND);
        Due.is("34: n 61", x.force(5, 61), Due.BEYOND);
        x.beats(1);
        Due.is("34: not in one beat from BEAT 1", x.force(5, 1), Due.NONE);
        Due.is("34: in two", x.force(5, 2), 7);
        Due.is("34: gone", x.force(9, 1), Due.STATE);
        PennyLedge most = Due.shelf("watch at 3 0;watch at 3 1;watch at 3 2;watch at 3 3;watch at 3 4;watch at 3 5",
            "watch at 3 0;watch at 3 1;watch at 3 2;watch at 3 3;watch at 3 4;watch at 3 5");
        Due.is("34: 60", most.force(5, 1), 60);
        most.lay(most.coin(0), 3, 2);
        Due.is("34: 61 would be needed", most.force(5, 1), Due.NONE);
    }

    private static void kindFor() {
        PennyLedge x = Due.shelf(RUN);
        Due.is("35: its own WORTH does not count", x.kindFor(5, 1), 0);
        Due.is("35: of all that let the same be WON the first", x.kindFor(0, 1), 0);
        x.set(0, 7);
        Due.is("35: a light one", x.kindFor(0, 1), 0);
        Due.is("35: n 60", x.kindFor(0, 60), 0);
        Due.is("35: kinds stay", x.of(0, 0), 0);
        x.change(0, 2);
        Due.is("35: light again", x.kindFor(0, 1), 0);
        Due.is("35: its kind stays", x.of(0, 0), 2);
        Due.is("35: no coin", x.kindFor(6, 1), Due.BEYOND);
        Due.is("35: coin -1", x.kindFor(-1, 1), Due.BEYOND);
        Due.is("35: n 0", x.kindFor(0, 0), Due.BEYOND);
        Due.is("35: n 61", x.kindFor(0, 61), Due.BEYOND);
        x.coin(0);
        Due.is("35: in the hand", x.kindFor(6, 1), Due.STATE);
    }

    private static void bounds() {
        PennyLedge x = Due.shelf("coin at 3 3");
        Due.toBeat(x, 9990);
        Due.is("33: to the end", x.stroke(9), 1);
        Due.is("33: above it", x.stroke(10), Due.STATE);
        Due.is("34: to the end", x.force(0, 9), Due.NONE);
        Due.is("34: above it", x.force(0, 10), Due.STATE);
        Due.is("35: to the end", x.kindFor(0, 9), 0);
        Due.is("35: above it", x.kindFor(0, 10), Due.STATE);
        Due.is("33: n 61 above it", x.stroke(61), Due.BEYOND);
        Due.is("34: n 61 above it", x.force(0, 61), Due.BEYOND);
        Due.is("35: n 61 above it", x.kindFor(0, 61), Due.BEYOND);
    }

    private static void seed() {
        PennyLedge x = new PennyLedge();
        Due.is("36: at first", x.seed(-1000001), 1);
        Due.is("36: any int, and no finding", x.seed(Integer.MIN_VALUE), -1000001);
        Due.is("36: the least int", x.seed(7), Integer.MIN_VALUE);
        Due.is("36: as count(6) tells", x.count(6), 7);
        Due.is("36: no finding", x.status(-1), 0);
    }
}
