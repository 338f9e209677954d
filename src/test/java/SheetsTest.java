/** Promises 40 to 46. */
public final class SheetsTest {
    public static void main(String[] args) {
        hold();
        as();
        sheet();
        write();
        copy();
        load();
        loadEnds();
        judge();
        Due.end();
    }

    private static void hold() {
        PennyLedge x = Due.shelf("coin;big");
        Due.is("40: hold", x.hold(0, 1), 1);
        Due.is("40: the last spot", x.hold(9, 0), 1);
        Due.is("40: two hold something", x.count(7), 2);
        Due.is("40: another coin", x.hold(0, 0), 1);
        Due.is("40: that", x.as(0, 0), 0);
        Due.is("40: nothing", x.hold(0, -1), 1);
        Due.is("40: one holds something", x.count(7), 1);
        Due.is("40: spot -1", x.hold(-1, 0), Due.BEYOND);
        Due.is("40: spot 10", x.hold(10, 0), Due.BEYOND);
        Due.is("40: coin 2", x.hold(0, 2), Due.BEYOND);
        Due.is("40: coin -2", x.hold(9, -2), Due.BEYOND);
        Due.is("40: spot -1, nothing", x.hold(-1, -1), Due.BEYOND);
        Due.is("40: unchanged", x.as(9, 0), 0);
    }

    private static void as() {
        boolean[][] under = new boolean[7][7];
        int[][] pairs = {{1, 0}, {2, 0}, {5, 0}, {3, 1}, {3, 0}, {4, 2}, {4, 0}, {6, 5}, {6, 0}};
        for (int[] pair : pairs) {
            under[pair[0]][pair[1]] = true;
        }
        PennyLedge x = Due.shelf("coin;big;watch;crown;bent;token;lead");
        for (int kind = 0; kind < 7; kind++) {
            x.hold(kind, kind);
            for (int upper = 0; upper < 7; upper++) {
                boolean fits = kind == upper || under[kind][upper];
                Due.is("41: kind " + kind + " as " + upper, x.as(kind, upper), fits ? kind : Due.KIND);
            }
        }
        x.change(0, 3);
        Due.is("41: as what it became", x.as(0, 1), 0);
        Due.is("41: holds nothing", x.as(7, 0), Due.MISSING);
        Due.is("41: spot 10", x.as(10, 0), Due.BEYOND);
        Due.is("41: spot -1", x.as(-1, 0), Due.BEYOND);
        Due.is("41: kind 7", x.as(7, 7), Due.BEYOND);
        Due.is("41: kind -1", x.as(0, -1), Due.BEYOND);
    }

    private static void sheet() {
        PennyLedge x = new PennyLedge();
        int[] bits = {8, 16, 32};
        for (int b : bits) {
            Due.is("42: 40 numbers", x.sheet(0, b, 40), 40);
            Due.is("42: none", x.sheet(0, b, 0), 0);
            Due.is("42: none is not MISSING", x.judge(0), 0);
        }
        Due.is("42: missing", x.sheet(0, 0, 5), 0);
        Due.is("42: that", x.judge(0), Due.MISSING);
        Due.is("42: sheet 4", x.sheet(4, 8, 1), Due.BEYOND);
        Due.is("42: sheet -1", x.sheet(-1, 8, 1), Due.BEYOND);
        Due.is("42: 7 bits", x.sheet(0, 7, 1), Due.BEYOND);
        Due.is("42: 64 bits", x.sheet(0, 64, 1), Due.BEYOND);
        Due.is("42: -8 bits, n -1", x.sheet(0, -8, -1), Due.BEYOND);
        Due.is("42: n -1", x.sheet(3, 8, -1), Due.SIZE);
        Due.is("42: n -1, 0 bits", x.sheet(3, 0, -1), Due.SIZE);
        Due.is("42: n 41", x.sheet(3, 8, 41), Due.BEYOND);
        Due.is("42: n 41, 0 bits", x.sheet(3, 0, 41), Due.BEYOND);
        x.sheet(1, 8, 2);
        x.write(1, 0, 5);
        x.sheet(1, 8, -1);
        Due.is("42: unchanged by a finding", x.judge(1), 1);
        x.sheet(1, 8, 2);
        Due.is("42: all 0 anew", x.judge(1), 0);
    }

    /** With nothing on the shelf judge tells whether all numbers are 0. */
    private static boolean isNought(PennyLedge x, int s) {
        return x.judge(s) == 0;
    }

    private static void write() {
        PennyLedge x = new PennyLedge();
        x.sheet(0, 8, 1);
        x.sheet(1, 16, 1);
        x.sheet(2, 32, 1);
        Due.is("43: 256", x.write(0, 0, 256), 1);
        Due.is("43: 8 lowest bits of it", isNought(x, 0) ? 1 : 0, 1);
        x.write(1, 0, 256);
        Due.is("43: 16 lowest bits of it", isNought(x, 1) ? 1 : 0, 0);
        x.write(1, 0, 65536);
        Due.is("43: 16 lowest bits of 65536", isNought(x, 1) ? 1 : 0, 1);
        x.write(2, 0, 65536);
        Due.is("43: 32 lowest bits of it", isNought(x, 2) ? 1 : 0, 0);
        signs();
        Due.is("43: sheet 4", x.write(4, 0, 0), Due.BEYOND);
        Due.is("43: sheet -1", x.write(-1, 0, 0), Due.BEYOND);
        Due.is("43: MISSING, nor such a number", x.write(3, 99, 0), Due.MISSING);
        Due.is("43: number 1", x.write(0, 1, 0), Due.BEYOND);
        Due.is("43: number -1", x.write(0, -1, 0), Due.BEYOND);
        x.sheet(3, 8, 40);
        Due.is("43: number 39", x.write(3, 39, 1), 1);
        Due.is("43: number 40", x.write(3, 40, 1), Due.BEYOND);
    }

    /** 257 of 8 bits is 1; 255 of 8 bits is -1, so no column. */
    private static void signs() {
        PennyLedge x = Due.shelf("coin;coin;coin");
        x.sheet(0, 8, 2);
        x.write(0, 0, 257);
        x.write(0, 1, 255);
        Due.is("43: 257 is 1, 255 is none", x.load(0), 1);
        Due.is("43: column 1", x.of(0, 1), 11);
        x.sheet(0, 16, 2);
        x.write(0, 0, 65536 + 2);
        x.write(0, 1, 65535);
        Due.is("43: of 16 bits", x.load(0), 1);
        Due.is("43: column 2", x.of(1, 1), 21);
        x.sheet(0, 32, 1);
        x.write(0, 0, 65536 + 2);
        Due.is("43: of 32 bits as it is", x.load(0), 0);
    }

    private static void copy() {
        PennyLedge x = Due.shelf(Due.times(8, "coin"));
        x.sheet(0, 8, 5);
        x.sheet(1, 8, 3);
        x.sheet(2, 16, 5);
        for (int i = 0; i < 5; i++) {
            x.write(0, i, i + 1);
        }
        Due.is("44: three", x.copy(0, 1, 1, 0, 3), 3);
        Due.is("44: dropped by it", x.load(1), 3);
        Due.is("44: column 2", x.of(0, 1), 21);
        Due.is("44: column 3", x.of(1, 1), 31);
        Due.is("44: column 4, at an even BEAT", x.of(2, 1), 41);
        Due.is("44: onto itself", x.copy(0, 0, 0, 1, 4), 4);
        Due.is("44: as they all were: 1 1 2 3 4", x.load(0), 5);
        int[] cells = {12, 11, 21, 31, 41};
        for (int i = 0; i < 5; i++) {
            Due.is("44: number " + i, x.of(3 + i, 1), cells[i]);
        }
        copyFindings(x);
    }

    private static void copyFindings(PennyLedge x) {
        Due.is("44: none", x.copy(0, 5, 1, 3, 0), 0);
        Due.is("44: none beyond the end", x.copy(0, 6, 1, 0, 0), Due.BEYOND);
        Due.is("44: none beyond the other's end", x.copy(0, 0, 1, 4, 0), Due.BEYOND);
        Due.is("44: the first has not so many", x.copy(0, 3, 1, 0, 3), Due.BEYOND);
        Due.is("44: the second has not so many", x.copy(0, 0, 1, 1, 3), Due.BEYOND);
        Due.is("44: from -1", x.copy(0, -1, 1, 0, 1), Due.BEYOND);
        Due.is("44: to -1", x.copy(0, 0, 1, -1, 1), Due.BEYOND);
        Due.is("44: n -1", x.copy(0, 0, 1, 0, -1), Due.BEYOND);
        Due.is("44: far", x.copy(0, Integer.MAX_VALUE, 1, Integer.MAX_VALUE, Integer.MAX_VALUE), Due.BEYOND);
        Due.is("44: far from", x.copy(0, Integer.MAX_VALUE, 1, 0, 1), Due.BEYOND);
        Due.is("44: least", x.copy(0, Integer.MIN_VALUE, 1, Integer.MIN_VALUE, Integer.MIN_VALUE), Due.BEYOND);
        Due.is("44: other bits, ahead of what is beyond", x.copy(0, -1, 2, 0, 1), Due.KIND);
        Due.is("44: the first MISSING", x.copy(3, -1, 0, 0, 1), Due.MISSING);
        Due.is("44: the second MISSING", x.copy(2, 0, 3, 0, 1), Due.MISSING);
        Due.is("44: sheet 4", x.copy(4, 0, 3, 0, 1), Due.BEYOND);
        Due.is("44: to sheet -1", x.copy(3, 0, -1, 0, 1), Due.BEYOND);
    }

    private static void load() {
        PennyLedge x = Due.shelf("watch at 6 5;coin;coin;coin");
        x.sheet(1, 32, 3);
        x.write(1, 0, 4);
        x.write(1, 1, 6);
        x.write(1, 2, 7);
        Due.is("45: to the 7", x.load(1), 2);
        Due.is("45: the least number first", x.of(1, 1), 41);
        Due.is("45: the next", x.of(2, 1), 61);
        Due.is("45: DROPPED", x.now(5), 2);
        Due.is("45: one was left", x.load(1), 1);
        Due.is("45: none is left", x.load(1), 0);
        x.sheet(2, 8, 0);
        Due.is("45: no numbers", x.load(2), 0);
        Due.is("45: MISSING", x.load(3), Due.MISSING);
        Due.is("45: sheet 4", x.load(4), Due.BEYOND);
        Due.is("45: sheet -1", x.load(-1), Due.BEYOND);
    }

    private static void loadEnds() {
        PennyLedge x = Due.shelf(Due.times(5, "coin"));
        x.sheet(0, 8, 5);
        Due.toBeat(x, 9997);
        Due.is("45: to BEAT 9999", x.load(0), 2);
        Due.is("45: BEAT", x.now(0), 9999);
        Due.is("45: no more", x.load(0), 0);
    }

    private static void judge() {
        PennyLedge x = Due.shelf(Due.times(4, "coin at 3 5"), Due.times(3, "coin at 0 5"), "force 0");
        x.sheet(0, 8, 3);
        Due.is("46: the first isn't", x.judge(0), 1);
        x.write(0, 0, 2);
        Due.is("46: the second isn't", x.judge(0), 2);
        x.write(0, 1, 1);
        Due.is("46: all are", x.judge(0), 0);
        x.write(0, 2, -1);
        Due.is("46: the third isn't", x.judge(0), 3);
        Due.is("46: nothing changes", x.now(0), 0);
        x.beats(1);
        Due.is("46: from now on", x.judge(0), 1);
        Due.is("46: MISSING", x.judge(1), Due.MISSING);
        Due.is("46: sheet 4", x.judge(4), Due.BEYOND);
        Due.is("46: sheet -1", x.judge(-1), Due.BEYOND);
        Due.toBeat(x, 9996);
        x.write(0, 2, 0);
        x.write(0, 0, 0);
        x.write(0, 1, 0);
        Due.is("46: to the end", x.judge(0), 0);
        x.write(0, 0, 1);
        x.beats(1);
        Due.is("46: above it, though the first isn't", x.judge(0), Due.STATE);
    }
}
