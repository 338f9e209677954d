/** Promises 27 to 30. */
public final class ChanceTest {
    private static final String RUN = "coin at 3 1;coin at 3 2;coin at 3 3;coin at 3 4;big at 3 5";

    public static void main(String[] args) {
        ways();
        total();
        luck();
        play();
        bounds();
        Due.end();
    }

    private static void ways() {
        PennyLedge x = Due.shelf(RUN, "coin;coin;coin");
        Due.is("27: no drop", x.ways(0, 0), 1);
        Due.is("27: no drop, no gain", x.ways(0, 1), 0);
        Due.is("27: one by column 3", x.ways(1, 1), 1);
        Due.is("27: none wins 2", x.ways(1, 2), 0);
        Due.is("27: each at least -1", x.ways(1, -1), 7);
        Due.is("27: two", x.ways(2, 0), 7);
        Due.is("27: two, v -2", x.ways(2, -2), 49);
        Due.is("27: first and third in column 3", x.ways(3, 0), 7);
        Due.is("27: first or third", x.ways(3, -1), 91);
        Due.is("27: all", x.ways(3, -3), 343);
        Due.is("27: v 999", x.ways(3, 999), 0);
        Due.is("27: v -99", x.ways(3, -99), 343);
        x.drop(5, 3);
        Due.is("27: GAIN as it is, not what is more", x.ways(0, 1), 1);
        Due.is("27: GAIN behind one more", x.ways(1, 0), 7);
        Due.is("27: fewer", x.ways(3, 0), Due.STATE);
        Due.is("27: k 4", x.ways(4, 0), Due.BEYOND);
        Due.is("27: k -1", x.ways(-1, 0), Due.BEYOND);
        Due.is("27: v -100", x.ways(0, -100), Due.BEYOND);
        Due.is("27: v 1000", x.ways(0, 1000), Due.BEYOND);
        Due.is("27: v 1000, fewer", x.ways(3, 1000), Due.BEYOND);
    }

    private static void total() {
        PennyLedge x = Due.shelf(RUN, "coin;coin;coin");
        Due.is("28: none", x.total(0), 0);
        Due.is("28: six lose 1, one wins 1", x.total(1), -5);
        Due.is("28: two", x.total(2), -84);
        Due.is("28: three", x.total(3), -42 - 42 - 3 * 252);
        x.drop(5, 3);
        Due.is("28: more than now", x.total(0), 0);
        Due.is("28: more than now, by one", x.total(1), -7);
        Due.is("28: fewer", x.total(3), Due.STATE);
        Due.is("28: k 4", x.total(4), Due.BEYOND);
        Due.is("28: k -1", x.total(-1), Due.BEYOND);
    }

    private static void luck() {
        PennyLedge x = Due.shelf(RUN, "coin;coin;coin");
        Due.is("29: none", x.luck(4, 0), 0);
        Due.is("29: the big one by one", x.luck(4, 1), 1);
        Due.is("29: by two", x.luck(4, 2), 7);
        Due.is("29: by three", x.luck(4, 3), 91);
        Due.is("29: the one behind it", x.luck(3, 3), 7);
        Due.is("29: one in the hand", x.luck(5, 3), 0);
        x.drop(5, 3);
        Due.is("29: WON already", x.luck(4, 0), 1);
        Due.is("29: WON already, by two", x.luck(4, 2), 49);
        Due.is("29: fewer", x.luck(4, 3), Due.STATE);
        Due.is("29: no coin", x.luck(8, 3), Due.BEYOND);
        Due.is("29: coin -1", x.luck(-1, 0), Due.BEYOND);
        Due.is("29: k 4", x.luck(0, 4), Due.BEYOND);
        Due.is("29: k -1", x.luck(0, -1), Due.BEYOND);
        PennyLedge side = Due.shelf("sides 3", Due.times(3, "coin at 2 5"), "coin");
        Due.is("29: the house's is not WON", side.luck(2, 1), 0);
    }

    private static void play() {
        PennyLedge x = Due.shelf(Due.times(6, "coin"));
        Due.is("30: the first draw gives column 5", x.play(1), -1);
        Due.is("30: pushed to row 1", x.of(0, 1), 51);
        Due.is("30: z", x.count(6), 1103527590);
        Due.is("30: columns 0 and 3", x.play(2), -2);
        Due.is("30: the second, on row 1", x.of(1, 1), 1);
        Due.is("30: the third, pushed to row 1", x.of(2, 1), 31);
        Due.is("30: z then", x.count(6), 662824084);
        Due.is("30: BEAT", x.now(0), 3);
        Due.is("30: fewer", x.play(4), Due.STATE);
        Due.is("30: n 0", x.play(0), Due.BEYOND);
        Due.is("30: n -1", x.play(-1), Due.BEYOND);
        Due.is("30: n 13", x.play(13), Due.BEYOND);
        Due.is("30: no draw by a finding", x.count(6), 662824084);
        Due.is("30: twelve", Due.shelf(Due.times(12, "coin")).play(12), -12);
        PennyLedge seeded = Due.shelf(RUN, "coin");
        seeded.seed(-1770082073);
        Due.is("30: the draw behind gives column 3: the big one", seeded.play(1), 1);
    }

    private static void bounds() {
        PennyLedge x = Due.shelf("coin;coin;coin");
        Due.toBeat(x, 9900);
        Due.is("27: BEAT 9900", x.ways(3, -3), 343);
        Due.is("28: BEAT 9900", x.total(3), -1029);
        Due.is("29: BEAT 9900", x.luck(0, 3), 0);
        x.beats(1);
        Due.is("27: BEAT 9901", x.ways(0, 0), Due.STATE);
        Due.is("28: BEAT 9901", x.total(0), Due.STATE);
        Due.is("29: BEAT 9901", x.luck(0, 0), Due.STATE);
        Due.is("30: BEAT 9901", x.play(1), Due.STATE);
        Due.is("30: BEAT 9901, n 13", x.play(13), Due.BEYOND);
        PennyLedge y = Due.shelf(Due.times(12, "coin"));
        Due.toBeat(y, 9900);
        Due.is("30: BEAT 9900", y.play(12), -12);
    }
}
