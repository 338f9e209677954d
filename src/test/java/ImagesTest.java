/** Promises 47 to 51. */
public final class ImagesTest {
    public static void main(String[] args) {
        image();
        whatIsNotKept();
        tear();
        count();
        status();
        findingsChangeNothing();
        Due.end();
    }

    private static PennyLedge changed() {
        PennyLedge x = Due.shelf("coin at 3 3;big at 3 3;watch;force 5;stroke 3;sides 2");
        x.hold(4, 1);
        x.drop(2, 5);
        x.seed(77);
        Due.is("47: kept", x.image(), 1);
        x.coin(3);
        x.change(0, 6);
        x.lift(3, 3);
        x.set(0, 60);
        x.set(1, 1);
        x.set(2, 0);
        x.hold(4, -1);
        x.hold(5, 0);
        x.play(2);
        x.beats(9);
        return x;
    }

    private static void image() {
        PennyLedge x = changed();
        Due.is("48: BEAT", x.undo(), 1);
        Due.is("48: now BEAT", x.now(0), 1);
        Due.is("48: coins", x.count(1), 3);
        Due.is("48: no coin 3", x.of(3, 0), Due.BEYOND);
        Due.is("48: kind", x.of(0, 0), 0);
        Due.is("48: stack", x.seen(3, 3, 1), 1);
        Due.is("48: height", x.height(3, 3), 2);
        Due.is("48: where the watch is", x.of(2, 1), 51);
        Due.is("48: hand", x.now(4), 0);
        Due.is("48: DROPPED", x.now(5), 1);
        Due.is("48: z", x.count(6), 77);
        Due.is("48: spots", x.count(7), 1);
        Due.is("48: spot 4", x.as(4, 1), 1);
        Due.is("48: FORCE", x.set(0, 9), 5);
        Due.is("48: STROKE", x.set(1, 4), 3);
        Due.is("48: SIDES", x.set(2, 1), 2);
        x.beats(5);
        Due.is("48: the image stays", x.undo(), 1);
        Due.is("48: FORCE again", x.set(0, 9), 5);
        x.beats(2);
        x.image();
        x.beats(4);
        Due.is("48: the latest", x.undo(), 3);
    }

    private static void whatIsNotKept() {
        PennyLedge x = new PennyLedge();
        x.sheet(0, 8, 3);
        x.write(0, 0, 1);
        Due.feed(x, "co");
        x.image();
        Due.feed(x, "in");
        x.write(0, 0, 0);
        x.sheet(1, 8, 1);
        x.coin(9);
        Due.is("48: back", x.undo(), 0);
        Due.is("48: THE TAPE stays as it is", x.count(5), 4);
        Due.is("48: so do sheets", x.judge(0), 0);
        Due.is("48: the new one too", x.judge(1), 0);
        Due.is("48: findings are not taken back", x.status(0), 1);
        Due.is("48: THE TAPE is read on", x.text(), 1);
    }

    private static void tear() {
        PennyLedge x = new PennyLedge();
        Due.is("49: nothing is kept", x.tear(), 0);
        Due.is("48: nothing is kept", x.undo(), Due.NONE);
        x.image();
        x.beats(3);
        Due.is("49: something was", x.tear(), 1);
        Due.is("49: no more", x.tear(), 0);
        Due.is("48: torn", x.undo(), Due.NONE);
        Due.is("48: nothing changed", x.now(0), 3);
        x.image();
        Due.is("48: kept anew", x.undo(), 3);
    }

    private static void count() {
        PennyLedge x = Due.shelf("watch at 3 3;crown at 3 3;big at 4 4;coin;lead at 6 0", "force 0");
        x.beats(2);
        x.hold(0, 1);
        x.hold(9, 1);
        Due.feed(x, "abc");
        int[] due = {2, 5, 4, 57, 3, 3, 1, 2};
        for (int what = 0; what < due.length; what++) {
            Due.is("50: count(" + what + ")", x.count(what), due[what]);
        }
        Due.is("50: what 8", x.count(8), Due.BEYOND);
        Due.is("50: what -1", x.count(-1), Due.BEYOND);
        x.seed(-2000000000);
        Due.is("50: z is no finding", x.count(6), -2000000000);
        Due.is("50: two findings", x.status(-1), 2);
    }

    private static void status() {
        PennyLedge x = Due.shelf(Due.times(4, "coin at 0 0"), "force 0;coin");
        for (int which = -1; which <= 6; which++) {
            Due.is("51: none yet", x.status(which), 0);
        }
        x.coin(7);
        x.lay(4, 0, 0);
        x.lay(4, 0, 0);
        x.hold(0, 0);
        x.as(0, 1);
        x.lift(6, 5);
        x.lift(6, 4);
        x.lift(6, 3);
        x.lay(0, 0, 0);
        x.as(1, 0);
        x.as(2, 0);
        x.sheet(0, 8, -1);
        int[] due = {1, 2, 1, 3, 1, 2, 1};
        for (int which = 0; which <= 6; which++) {
            Due.is("51: status(" + which + ")", x.status(which), due[which]);
        }
        Due.is("51: all", x.status(-1), 11);
        Due.is("51: which 7", x.status(7), Due.BEYOND);
        Due.is("51: which -2", x.status(-2), Due.BEYOND);
        Due.is("51: counted from then on", x.status(0), 3);
        Due.is("51: in all", x.status(-1), 13);
        x.ways(4, 0);
        x.total(4);
        x.luck(0, 4);
        Due.is("51: longs too", x.status(0), 6);
        Due.is("51: a fault is no finding", Due.tell(x, "dime"), -1);
        Due.is("51: so it is not counted", x.status(-1), 16);
    }

    private static void findingsChangeNothing() {
        PennyLedge x = Due.shelf("coin at 3 3;watch;coin;force 0");
        x.seed(5);
        x.image();
        x.play(3);
        x.drop(0, 3);
        x.lay(0, 1, 1);
        x.set(0, 61);
        x.beats(61);
        x.hold(0, 9);
        x.feed(0, 9);
        Due.is("51: seven", x.status(-1), 7);
        Due.is("51: z", x.count(6), 5);
        Due.is("51: BEAT", x.now(0), 0);
        Due.is("51: DROPPED", x.now(5), 0);
        Due.is("51: hand", x.now(4), 6);
        Due.is("51: FORCE", x.set(0, 0), 0);
        Due.is("51: THE TAPE", x.count(5), 0);
    }
}
