/** Promises 20 to 26. */
public final class DropsTest {
    /** Column 3, rows 1 to 5, a big one (coin 4) at the edge: weight 6; whatever comes onto row 0 completes the run. */
    private static final String RUN = "coin at 3 1;coin at 3 2;coin at 3 3;coin at 3 4;big at 3 5";

    public static void main(String[] args) {
        brings();
        best();
        waiting();
        three();
        threeTies();
        soonest();
        soonestOdd();
        bounds();
        Due.end();
    }

    private static void brings() {
        PennyLedge x = Due.shelf(RUN, "coin");
        Due.is("20: onto the run", x.brings(5, 3, 0), 1);
        Due.is("20: beside it", x.brings(5, 2, 20), -1);
        Due.is("20: nothing changes", x.now(0), 0);
        Due.is("20: still in the hand", x.of(5, 1), 100);
        Due.is("20: as drop does", x.drop(5, 3), 1);
        Due.is("20: not in the hand", x.brings(5, 3, 0), Due.STATE);
        PennyLedge later = Due.shelf("force 0", Due.times(4, "big at 2 5"), "coin");
        Due.is("20: one big one slides over", later.brings(4, 0, 0), 1);
        Due.is("20: two, with a beat more", later.brings(4, 0, 1), 3);
        Due.is("20: and no more", later.brings(4, 0, 20), 3);
        later.beats(5);
        Due.is("20: more than now", later.brings(4, 0, 1), -1);
        int[][] wrong = {{-1, 0, 0}, {5, 0, 0}, {4, -1, 0}, {4, 7, 0}, {4, 0, -1}, {4, 0, 21}, {0, 0, 21}};
        for (int[] w : wrong) {
            Due.is("20: wrong", later.brings(w[0], w[1], w[2]), Due.BEYOND);
        }
        Due.is("20: on the shelf", later.brings(0, 0, 0), Due.STATE);
    }

    private static void best() {
        PennyLedge x = Due.shelf(RUN, "coin");
        Due.is("21: best", x.best(5, 0), 3);
        x.set(0, 6);
        Due.is("21: too heavy, so the first column", x.best(5, 0), 0);
        x.set(0, 8);
        x.beats(1);
        Due.is("21: at an odd BEAT", x.best(5, 0), 0);
        Due.is("21: no coin", x.best(6, 0), Due.BEYOND);
        Due.is("21: coin -1", x.best(-1, 0), Due.BEYOND);
        Due.is("21: n -1", x.best(5, -1), Due.BEYOND);
        Due.is("21: n 21", x.best(5, 21), Due.BEYOND);
        Due.is("21: on the shelf", x.best(0, 0), Due.STATE);
        PennyLedge two = Due.shelf("coin at 2 1;coin at 2 2;coin at 2 3;coin at 2 4;coin at 2 5", RUN, "coin");
        Due.is("21: of two the one that wins more", two.best(10, 0), 3);
        two.change(9, 0);
        Due.is("21: of two alike the least", two.best(10, 0), 2);
    }

    private static void waiting() {
        PennyLedge x = Due.shelf(RUN, "coin");
        Due.is("22: no need to wait", x.wait(5, 0), 3);
        x.beats(1);
        Due.is("22: a beat", x.wait(5, 0), 13);
        Due.is("22: a beat, with more behind", x.wait(5, 20), 13);
        x.set(1, 6);
        Due.is("22: five beats, to BEAT 6", x.wait(5, 0), 53);
        x.beats(7);
        x.set(1, 5);
        Due.is("22: two beats, to BEAT 10", x.wait(5, 0), 23);
        x.set(0, 0);
        Due.is("22: nothing helps", x.wait(5, 3), 0);
        Due.is("22: nothing changes", x.now(0), 8);
        Due.is("22: no coin", x.wait(6, 0), Due.BEYOND);
        Due.is("22: coin -1", x.wait(-1, 0), Due.BEYOND);
        Due.is("22: n -1", x.wait(5, -1), Due.BEYOND);
        Due.is("22: n 21", x.wait(5, 21), Due.BEYOND);
        Due.is("22: on the shelf", x.wait(0, 0), Due.STATE);
        PennyLedge far = Due.shelf("force 0;stroke 3", Due.times(4, "coin at 3 5"), "coin");
        Due.is("22: the waited beats count too", far.wait(4, 0), 10);
        PennyLedge last = Due.shelf("stroke 6", RUN, "coin");
        last.beats(7);
        Due.is("22: five beats, to BEAT 12", last.wait(5, 0), 53);
        PennyLedge most = Due.shelf("stroke 5", RUN, "coin");
        most.beats(1);
        Due.is("22: nine beats: BEAT 5 is odd, so to BEAT 10", most.wait(5, 0), 93);
    }

    private static void three() {
        PennyLedge x = Due.shelf(RUN, "coin;coin;coin");
        Due.is("23: first and third onto the run", x.three(0), 303);
        Due.is("24: what they bring", x.threeBring(0), 0);
        Due.is("23: with beats behind", x.three(20), 303);
        Due.is("24: with beats behind", x.threeBring(20), 0);
        x.set(0, 0);
        Due.is("23: nothing helps", x.three(0), 0);
        Due.is("24: nothing helps", x.threeBring(0), -3);
        Due.is("23: nothing changes", x.now(0), 0);
        Due.is("23: n -1", x.three(-1), Due.BEYOND);
        Due.is("23: n 21", x.three(21), Due.BEYOND);
        Due.is("24: n -1", x.threeBring(-1), Due.BEYOND);
        Due.is("24: n 21", x.threeBring(21), Due.BEYOND);
        x.set(0, 8);
        x.drop(5, 3);
        Due.is("23: only two in the hand", x.three(0), Due.STATE);
        Due.is("24: only two in the hand", x.threeBring(0), Due.STATE);
    }

    private static void threeTies() {
        PennyLedge x = Due.shelf(RUN, "coin;coin;coin;watch", "force 7");
        x.beats(1);
        Due.is("23: the second onto the run, the others first so", x.three(0), 30);
        Due.is("24: that", x.threeBring(0), -1);
        x.set(2, 3);
        Due.is("23: column 3 is nobody's side", x.three(0), 30);
        PennyLedge least = Due.shelf("coin;coin", RUN, "lead;coin", "force 8");
        least.beats(1);
        Due.is("23: coins of least numbers: 0, 1, 7", least.three(0), 30);
        least.change(1, 6);
        Due.is("23: the second is of lead: too heavy", least.three(0), 0);
        PennyLedge gained = Due.shelf(Due.times(3, "watch at 3 5"), "coin;coin;coin;force 0");
        gained.change(2, 0);
        gained.beats(1);
        Due.is("24: more than now", gained.threeBring(0), -3);
    }

    private static void soonest() {
        PennyLedge x = Due.shelf(RUN, "coin;coin;coin");
        Due.is("25: one drop", x.soonest(4), 1);
        Due.is("26: in column 3", x.firstFor(4), 3);
        Due.is("25: three drops, BEATS 0 and 2 push", x.soonest(3), 3);
        Due.is("26: the first in column 3", x.firstFor(3), 3);
        Due.is("25: not with three", x.soonest(2), Due.NONE);
        Due.is("26: not with three", x.firstFor(2), Due.NONE);
        Due.is("25: one in the hand", x.soonest(5), Due.NONE);
        x.lay(5, 6, 5);
        Due.is("25: only two in the hand", x.soonest(3), Due.NONE);
        Due.is("26: only two in the hand", x.firstFor(3), Due.NONE);
        x.drop(6, 3);
        Due.is("25: WON already", x.soonest(4), 0);
        Due.is("26: WON already", x.firstFor(4), Due.NONE);
        Due.is("25: no coin", x.soonest(8), Due.BEYOND);
        Due.is("25: coin -1", x.soonest(-1), Due.BEYOND);
        Due.is("26: no coin", x.firstFor(8), Due.BEYOND);
        Due.is("26: coin -1", x.firstFor(-1), Due.BEYOND);
    }

    private static void soonestOdd() {
        PennyLedge x = Due.shelf(RUN, "coin;coin");
        x.beats(1);
        Due.is("25: two drops, BEAT 2 pushes", x.soonest(4), 2);
        Due.is("26: the first anywhere", x.firstFor(4), 0);
        PennyLedge side = Due.shelf("sides 3", Due.times(3, "coin at 2 5"), "coin");
        Due.is("25: the house's is not WON", side.soonest(2), Due.NONE);
        side.set(2, 2);
        Due.is("25: by the beat alone", side.soonest(2), 1);
        Due.is("26: by the beat alone", side.firstFor(2), 0);
        PennyLedge empty = Due.shelf(Due.times(3, "coin at 3 5"));
        Due.is("25: no drop, no beat", empty.soonest(2), Due.NONE);
        PennyLedge slow = Due.shelf(Due.times(4, "coin at 3 5"), "force 0;coin;coin");
        Due.is("25: the second to slide", slow.soonest(2), 2);
    }

    private static void bounds() {
        PennyLedge x = Due.shelf("coin;coin;coin;watch at 3 3");
        Due.toBeat(x, 9900);
        Due.is("20: BEAT 9900", x.brings(0, 0, 20), -1);
        Due.is("21: BEAT 9900", x.best(0, 20), 0);
        Due.is("22: BEAT 9900", x.wait(0, 20), 0);
        Due.is("23: BEAT 9900", x.three(20), 0);
        Due.is("24: BEAT 9900", x.threeBring(20), -3);
        Due.is("25: BEAT 9900", x.soonest(3), Due.NONE);
        Due.is("26: BEAT 9900", x.firstFor(3), Due.NONE);
        x.beats(1);
        Due.is("20: BEAT 9901", x.brings(0, 0, 0), Due.STATE);
        Due.is("20: BEAT 9901, no column", x.brings(0, 7, 0), Due.BEYOND);
        Due.is("21: BEAT 9901", x.best(0, 0), Due.STATE);
        Due.is("21: BEAT 9901, n 21", x.best(0, 21), Due.BEYOND);
        Due.is("22: BEAT 9901", x.wait(0, 0), Due.STATE);
        Due.is("22: BEAT 9901, n 21", x.wait(0, 21), Due.BEYOND);
        Due.is("23: BEAT 9901", x.three(0), Due.STATE);
        Due.is("23: BEAT 9901, n 21", x.three(21), Due.BEYOND);
        Due.is("24: BEAT 9901", x.threeBring(0), Due.STATE);
        Due.is("24: BEAT 9901, n 21", x.threeBring(21), Due.BEYOND);
        Due.is("25: BEAT 9901", x.soonest(3), Due.STATE);
        Due.is("25: BEAT 9901, no coin", x.soonest(4), Due.BEYOND);
        Due.is("26: BEAT 9901", x.firstFor(3), Due.STATE);
        Due.is("26: BEAT 9901, no coin", x.firstFor(4), Due.BEYOND);
    }
}
