/** Promises 10 to 19. */
public final class BeatsTest {
    /** Column 3, rows 0 to 5: 6 stacks of one, of weight 6 together. */
    private static final String RUN = "coin at 3 0;coin at 3 1;coin at 3 2;coin at 3 3;coin at 3 4;coin at 3 5";

    public static void main(String[] args) {
        drop();
        dropOverflows();
        pushes();
        slides();
        sides();
        beatsEnd();
        now();
        runAndWeight();
        moved();
        leaning();
        ahead();
        falls();
        rest();
        Due.end();
    }

    private static void drop() {
        PennyLedge x = Due.shelf(Due.times(5, "coin"));
        Due.is("10: at an even BEAT, pushed at once", x.drop(0, 3), -1);
        Due.is("10: where it is", x.of(0, 1), 31);
        Due.is("10: a beat went", x.now(0), 1);
        Due.is("10: at an odd BEAT", x.drop(1, 3), -1);
        Due.is("10: on row 1", x.of(1, 1), 31);
        Due.is("10: on the first one", x.of(1, 2), 1);
        Due.is("10: the third", x.drop(2, 3), -1);
        Due.is("10: pushes the others", x.height(3, 2), 2);
        Due.is("10: itself on row 1", x.of(2, 1), 31);
        Due.is("10: DROPPED", x.now(5), 3);
        Due.is("10: no coin", x.drop(5, 0), Due.BEYOND);
        Due.is("10: coin -1", x.drop(-1, 0), Due.BEYOND);
        Due.is("10: column 7", x.drop(3, 7), Due.BEYOND);
        Due.is("10: column -1", x.drop(3, -1), Due.BEYOND);
        Due.is("10: not in the hand, nor a column", x.drop(0, 7), Due.BEYOND);
        Due.is("10: not in the hand", x.drop(0, 0), Due.STATE);
        Due.is("10: nothing changed", x.now(0), 3);
        PennyLedge w = Due.shelf("watch at 3 5;coin at 3 4;coin at 3 3;coin at 3 2;coin at 3 1;coin", "force 10");
        Due.is("10: what it wins, less 1", w.drop(5, 3), 49);
        Due.is("10: GAIN", w.now(1), 49);
    }

    private static void dropOverflows() {
        PennyLedge x = Due.shelf("force 0", Due.times(4, "watch at 5 0"), Due.times(4, "watch at 6 0"), "coin;lead");
        Due.is("10: the house takes what finds no room", x.drop(8, 5), -1);
        Due.is("10: the house's", x.of(8, 1), 102);
        Due.is("10: DROPPED all the same", x.now(5), 1);
        x.beats(1);
        x.lift(6, 0);
        Due.is("10: the next column up", x.drop(9, 5), -1);
        Due.is("10: there", x.seen(6, 0, 3), 9);
        PennyLedge y = Due.shelf("force 0", Due.times(4, "watch at 3 0"), Due.times(3, "watch at 4 0"), "lead");
        y.drop(7, 3);
        Due.is("10: no further than needed", y.of(7, 1), 40);
        PennyLedge odd = Due.shelf("force 0", Due.times(4, "watch at 2 1"), "coin;coin");
        odd.beats(1);
        odd.drop(4, 2);
        Due.is("10: row 1 of the next column", odd.of(4, 1), 31);
        odd.drop(5, 2);
        Due.is("10: row 0 has room", odd.of(5, 1), 20);
    }

    private static void pushes() {
        PennyLedge x = Due.shelf(RUN);
        Due.is("11: one goes over", x.beats(1), 1);
        Due.is("11: that of row 5", x.now(2), 32);
        Due.is("11: row 0 is empty", x.height(3, 0), 0);
        Due.is("11: the first is on row 1", x.of(0, 1), 31);
        Due.is("11: the fifth is on row 5", x.of(4, 1), 35);
        Due.is("11: no run, no push", x.beats(60), 0);
        PennyLedge heavy = Due.shelf(RUN, "force 5");
        Due.is("11: too heavy", heavy.beats(60), 0);
        Due.is("11: stays", heavy.of(5, 1), 35);
        PennyLedge odd = Due.shelf("force 0", RUN);
        odd.beats(1);
        odd.set(0, 6);
        Due.is("11: no stroke at an odd BEAT", odd.beats(1), 0);
        Due.is("11: at an even one", odd.beats(1), 1);
        PennyLedge slow = Due.shelf(RUN, "stroke 5;force 0");
        slow.beats(1);
        slow.set(0, 6);
        Due.is("11: BEATS 1 to 4", slow.beats(4), 0);
        Due.is("11: BEAT 5", slow.beats(1), 1);
        PennyLedge gap = Due.shelf("coin at 3 0;coin at 3 1;coin at 3 3;coin at 3 5");
        Due.is("11: a gap ends the run", gap.beats(1), 0);
        Due.is("11: closed up", gap.run(3), 0);
        Due.is("11: on row 2", gap.of(1, 1), 32);
        Due.is("11: behind the gap", gap.of(2, 1), 33);
        PennyLedge stack = Due.shelf("coin at 3 0;big at 3 0;token at 3 0");
        stack.set(0, 4);
        stack.beats(1);
        Due.is("11: a stack goes as it is, then its top slides", stack.seen(3, 1, 0), 0);
        Due.is("11: the second", stack.seen(3, 1, 1), 1);
        Due.is("11: the third slid", stack.seen(3, 2, 0), 2);
    }

    private static void slides() {
        int[] goes = {1, 1, 0, 1, 1, 1, 0};
        for (int kind = 0; kind < 7; kind++) {
            PennyLedge x = Due.shelf("coin at 3 5;coin at 3 5");
            x.coin(kind);
            x.lay(2, 3, 5);
            Due.is("11: kind " + kind + " slides over", x.beats(1), goes[kind]);
            Due.is("11: two stay", x.beats(60), 0);
        }
        PennyLedge x = Due.shelf("force 0", Due.times(4, "coin at 2 2"), "coin at 2 3");
        x.beats(1);
        Due.is("11: higher by 3", x.of(3, 1), 23);
        Due.is("11: on the other", x.of(3, 2), 1);
        x.beats(1);
        Due.is("11: higher by 1", x.height(2, 2), 3);
        PennyLedge two = Due.shelf("force 0", Due.times(4, "coin at 2 2"), "coin at 2 3;coin at 2 3");
        two.beats(10);
        Due.is("11: higher by 2", two.height(2, 2), 4);
        PennyLedge one = Due.shelf("force 0", Due.times(4, "coin at 2 4"));
        one.beats(1);
        Due.is("11: one a beat", one.height(2, 4), 3);
        Due.is("11: no further in the same beat", one.height(2, 5), 1);
    }

    private static void sides() {
        for (int sides = 0; sides <= 3; sides++) {
            PennyLedge x = new PennyLedge();
            x.set(2, sides);
            for (int column = 0; column < 7; column++) {
                for (int i = 0; i < 3; i++) {
                    x.lay(x.coin(0), column, 5);
                }
            }
            Due.is("11: seven go over", x.beats(1), 7);
            for (int column = 0; column < 7; column++) {
                boolean house = column < sides || column > 6 - sides;
                Due.is("11: sides " + sides + " column " + column, x.of(3 * column + 2, 1), house ? 102 : 101);
            }
            Due.is("11: GAIN", x.now(1), 7 - 2 * sides);
            Due.is("12: WORTH of the house's", x.now(6), 2 * sides);
        }
    }

    private static void beatsEnd() {
        PennyLedge x = Due.shelf("coin;coin");
        Due.is("11: 0", x.beats(0), Due.BEYOND);
        Due.is("11: -1", x.beats(-1), Due.BEYOND);
        Due.is("11: 61", x.beats(61), Due.BEYOND);
        Due.toBeat(x, 9998);
        Due.is("17: BEAT above the end", x.ahead(2, 0), Due.STATE);
        Due.is("17: BEAT at the end", x.ahead(1, 0), 0);
        Due.is("11: BEAT above the end", x.beats(2), Due.STATE);
        Due.is("10: the last beat", x.drop(0, 3), -1);
        Due.is("10: BEAT is 9999", x.drop(1, 3), Due.STATE);
        Due.is("11: BEAT is 9999", x.beats(1), Due.STATE);
        Due.is("17: n 0 at the end", x.ahead(0, 2), 1);
        Due.is("12: BEAT", x.now(0), 9999);
    }

    private static void now() {
        PennyLedge x = Due.shelf(Due.times(3, "big at 3 5"), Due.times(3, "crown at 0 5"), "coin;coin");
        x.drop(6, 2);
        Due.is("12: BEAT", x.now(0), 1);
        Due.is("12: GAIN", x.now(1), 1);
        Due.is("12: WON", x.now(2), 4);
        Due.is("12: the house's", x.now(3), 32);
        Due.is("12: in the hand", x.now(4), 128);
        Due.is("12: DROPPED", x.now(5), 1);
        Due.is("12: WORTH of the house's", x.now(6), 5);
        Due.is("12: what -1", x.now(-1), Due.BEYOND);
        Due.is("12: what 7", x.now(7), Due.BEYOND);
    }

    private static void runAndWeight() {
        PennyLedge x = Due.shelf("coin at 3 0;big at 3 0;watch at 3 1;coin at 3 3;lead at 4 1;lead at 6 0", RUN);
        Due.is("13: all rows", x.run(3), 6);
        Due.is("14: all of it", x.weight(3), 1 + 2 + 5 + 1 + 6);
        Due.is("13: not from row 0 on", x.run(4), 0);
        Due.is("14: no run", x.weight(4), 0);
        Due.is("13: one row", x.run(6), 1);
        Due.is("14: lead", x.weight(6), 3);
        PennyLedge gap = Due.shelf("coin at 3 0;big at 3 0;watch at 3 1;coin at 3 3");
        Due.is("13: to the gap", gap.run(3), 2);
        Due.is("14: to the gap", gap.weight(3), 8);
        Due.is("13: column 7", x.run(7), Due.BEYOND);
        Due.is("13: column -1", x.run(-1), Due.BEYOND);
        Due.is("14: column 7", x.weight(7), Due.BEYOND);
        Due.is("14: column -1", x.weight(-1), Due.BEYOND);
    }

    private static void moved() {
        PennyLedge x = Due.shelf("watch at 0 0;crown at 0 0;coin at 2 0;coin at 4 1;watch at 6 0;watch at 6 0");
        Due.is("15: columns 0 and 2", x.moved(), 5);
        x.beats(1);
        Due.is("15: moved away", x.moved(), 0);
        PennyLedge y = Due.shelf("force 1;coin");
        y.beats(1);
        y.lay(0, 6, 0);
        Due.is("15: whatever BEAT is", y.moved(), 64);
        y.set(0, 0);
        Due.is("15: above FORCE", y.moved(), 0);
    }

    private static void leaning() {
        PennyLedge x = Due.shelf(Due.times(4, "coin at 0 0"), "coin at 0 1", Due.times(4, "coin at 1 4"));
        Due.is("16: by 3, by 4", x.leaning(), 2);
        x.lay(x.coin(0), 0, 1);
        Due.is("16: by 2", x.leaning(), 1);
        PennyLedge edge = Due.shelf(Due.times(3, "coin at 1 5"), Due.times(3, "coin at 1 4"), Due.times(3, "lead at 2 5"));
        Due.is("16: row 5", edge.leaning(), 1);
        edge.change(8, 4);
        Due.is("16: now that its top slides", edge.leaning(), 2);
        PennyLedge chain = Due.shelf(Due.times(4, "coin at 3 3"), "coin at 3 4", Due.times(4, "coin at 4 0"));
        Due.is("16: as they are", chain.leaning(), 2);
        Due.is("16: nothing changes", chain.height(3, 3), 4);
    }

    private static void ahead() {
        PennyLedge x = Due.shelf("watch at 3 0;big at 3 1;coin at 3 2;coin at 3 3;coin at 3 4;crown at 3 5");
        x.set(0, 13);
        Due.is("17: none gone yet", x.ahead(0, 0), 0);
        Due.is("17: WORTH of those WON", x.ahead(1, 0), 5);
        Due.is("17: how many", x.ahead(60, 1), 1);
        Due.is("17: on the shelf now", x.ahead(0, 2), 63);
        Due.is("17: on the shelf then", x.ahead(1, 2), 31);
        Due.is("17: highest", x.ahead(1, 3), 1);
        x.set(0, 12);
        Due.is("17: too heavy", x.ahead(60, 1), 0);
        Due.is("17: nothing changed", x.now(0), 0);
        PennyLedge y = Due.shelf(Due.times(4, "coin at 0 5"), "force 0");
        Due.is("17: the house's are not WON", y.ahead(5, 0), 0);
        Due.is("17: but go over", y.ahead(5, 1), 2);
        Due.is("17: first one", y.ahead(1, 1), 1);
        Due.is("17: four high", y.ahead(0, 3), 4);
        Due.is("17: three high", y.ahead(1, 3), 3);
        Due.is("17: two high", y.ahead(60, 3), 2);
        y.beats(2);
        Due.is("17: those gone before do not count", y.ahead(5, 1), 0);
        PennyLedge won = Due.shelf(Due.times(4, "big at 3 5"), "force 0");
        won.beats(1);
        Due.is("17: WORTH of those WON in them alone", won.ahead(60, 0), 2);
        won.beats(1);
        Due.is("17: none more", won.ahead(60, 0), 0);
        Due.is("17: n -1", y.ahead(-1, 0), Due.BEYOND);
        Due.is("17: n 61", y.ahead(61, 0), Due.BEYOND);
        Due.is("17: what -1", y.ahead(0, -1), Due.BEYOND);
        Due.is("17: what 4", y.ahead(0, 4), Due.BEYOND);
    }

    private static void falls() {
        PennyLedge x = Due.shelf(Due.times(4, "coin at 0 5"), "coin;force 0");
        Due.is("18: at once", x.falls(3), 1);
        Due.is("18: behind it", x.falls(2), 2);
        Due.is("18: never", x.falls(1), Due.NONE);
        Due.is("18: in the hand", x.falls(4), Due.STATE);
        Due.is("18: no coin", x.falls(5), Due.BEYOND);
        Due.is("18: coin -1", x.falls(-1), Due.BEYOND);
        x.beats(1);
        Due.is("18: the house's", x.falls(3), Due.STATE);
        PennyLedge run = Due.shelf("force 0;stroke 6", RUN);
        run.beats(1);
        run.set(0, 6);
        Due.is("18: at BEAT 6", run.falls(5), 6);
        PennyLedge far = Due.shelf("coin at 3 5;coin");
        Due.toBeat(far, 9939);
        Due.is("18: BEAT 9939", far.falls(0), Due.NONE);
        far.beats(1);
        Due.is("18: BEAT 9940", far.falls(0), Due.STATE);
        Due.is("18: no coin, BEAT 9940", far.falls(2), Due.BEYOND);
    }

    private static void rest() {
        PennyLedge x = Due.shelf("stroke 6;coin");
        x.beats(1);
        Due.is("19: nothing there", x.rest(), 0);
        x.lay(0, 3, 0);
        Due.is("19: behind the push of BEAT 6", x.rest(), 6);
        x.set(0, 0);
        Due.is("19: too heavy", x.rest(), 0);
        PennyLedge y = Due.shelf(Due.times(4, "coin at 3 5"), "stroke 1;force 0");
        Due.is("19: two slide", y.rest(), 2);
        y.beats(1);
        Due.is("19: one slides", y.rest(), 1);
        y.beats(1);
        Due.is("19: none slides", y.rest(), 0);
        PennyLedge far = Due.shelf("coin at 3 0;force 0");
        Due.toBeat(far, 9930);
        Due.is("19: BEAT 9930", far.rest(), 0);
        far.beats(1);
        Due.is("19: BEAT 9931", far.rest(), Due.STATE);
    }
}
