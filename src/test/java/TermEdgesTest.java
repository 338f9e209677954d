/** The bounds named by the document's parts "What it is" and "Terms": a test for each sentence. */
public final class TermEdgesTest {
    /** Rows 1 to 5 of column 3: a coin on row 0 makes it a run of weight 6. */
    private static final String REST_OF_RUN = "coin at 3 1;coin at 3 2;coin at 3 3;coin at 3 4;coin at 3 5";

    public static void main(String[] args) throws Exception {
        Due.each(TermEdgesTest.class);
    }

    // ---- what it is, findings

    /** "An object is used for at most 512 calls": the 512th is answered as promised. */
    private static void theLastCall() {
        PennyLedge x = new PennyLedge();
        for (int i = 0; i < 510; i++) {
            x.coin(7);
        }
        Due.is("call 511", x.coin(3), 0);
        Due.is("call 512", x.status(-1), 510);
    }

    /** "LOW is -1000001; LOW BEYOND, LOW - 1 FULL, LOW - 2 KIND, .. LOW - 6 SIZE". */
    private static void findings() {
        PennyLedge x = Due.shelf(Due.times(4, "coin at 0 0"), "coin");
        x.hold(0, 0);
        Due.is("BEYOND", x.coin(7), -1000001);
        Due.is("FULL", x.lay(4, 0, 0), -1000002);
        Due.is("KIND", x.as(0, 1), -1000003);
        Due.is("NONE", x.lift(6, 5), -1000004);
        Due.is("STATE", x.lay(0, 6, 5), -1000005);
        Due.is("MISSING", x.as(1, 0), -1000006);
        Due.is("SIZE", x.sheet(0, 8, -1), -1000007);
    }

    /** "in longs, too". */
    private static void findingsInLongs() {
        PennyLedge x = new PennyLedge();
        Due.is("ways BEYOND", x.ways(4, 0), -1000001L);
        Due.is("total BEYOND", x.total(4), -1000001L);
        Due.is("luck BEYOND", x.luck(0, 0), -1000001L);
        Due.is("ways STATE", x.ways(1, 0), -1000005L);
        Due.is("total STATE", x.total(1), -1000005L);
        x.coin(0);
        Due.is("luck STATE", x.luck(0, 2), -1000005L);
    }

    /** "What seed() and count(6) tell, z, may be any int: that is no finding." */
    private static void zMayBeAnyInt() {
        PennyLedge x = new PennyLedge();
        int[] all = {0, -1, -1000001, -1000002, -1000003, -1000004, -1000005, -1000006, -1000007,
            Integer.MIN_VALUE, Integer.MAX_VALUE};
        int last = 1;
        for (int z : all) {
            Due.is("seed", x.seed(z), last);
            Due.is("count(6)", x.count(6), z);
            last = z;
        }
        Due.is("no finding", x.status(-1), 0);
    }

    /** "Sets are told as bits": the first and the last of them, none and all. */
    private static void setsAreBits() {
        PennyLedge x = new PennyLedge();
        Due.is("no coin", x.now(4), 0);
        for (int i = 0; i < 24; i++) {
            x.coin(0);
        }
        Due.is("all coins", x.now(4), 0xffffff);
        x.lay(0, 0, 0);
        Due.is("all but the first", x.now(4), 0xfffffe);
        Due.is("the first", x.ahead(0, 2), 1);
        x.lay(23, 6, 0);
        Due.is("all but the last, too", x.now(4), 0x7ffffe);
        Due.is("the first and the last", x.ahead(0, 2), 0x800001);
        Due.is("the first and the last column", x.moved(), 65);
    }

    /** "of several that would do the least number counts". */
    private static void theLeastOfSeveral() {
        PennyLedge x = Due.shelf("coin;coin;coin;coin at 2 2", Due.times(3, "coin at 3 5"));
        Due.is("best: all columns alike", x.best(0, 20), 0);
        Due.is("wait: all beats and columns alike, the gain comes by itself", x.wait(0, 20), 0);
        Due.is("three: all alike", x.three(20), 0);
        Due.is("firstFor: the next beat wins it", x.firstFor(6), 0);
        Due.is("stroke: all alike", x.stroke(60), 1);
        Due.is("force: slides by itself", x.force(6, 60), 0);
        Due.is("kindFor: nothing depends on it", x.kindFor(3, 60), 0);
    }

    // ---- 1: cells, coins, settings

    /** "CELLS by COLUMN 0 to 6 and ROW 0 to 5": each of the 42, and it is a stack of its own. */
    private static void allCells() {
        for (int cell = 0; cell < 42; cell += 21) {
            PennyLedge x = new PennyLedge();
            for (int i = 0; i < 21; i++) {
                int column = (cell + i) / 6;
                int row = (cell + i) % 6;
                Due.is("coin", x.coin(0), i);
                Due.is("lay", x.lay(i, column, row), 1);
                Due.is("of", x.of(i, 1), 10 * column + row);
                Due.is("seen", x.seen(column, row, 0), i);
            }
            Due.is("stacks", x.count(4), 21);
        }
    }

    /** "a stack of at most 4, one on another". */
    private static void stackOfFour() {
        PennyLedge x = Due.shelf(Due.times(5, "coin"));
        for (int i = 0; i < 4; i++) {
            Due.is("lay", x.lay(i, 0, 5), i + 1);
            Due.is("on the ones before", x.of(i, 2), i);
        }
        Due.is("a fifth", x.lay(4, 0, 5), Due.FULL);
        Due.is("the next cell is another stack", x.lay(4, 1, 0), 1);
    }

    /** "WORTH: COIN: 1. BIG: twice what a COIN is. CROWN: as a BIG one, and 3 ..": in the hand, on the shelf, gone over. */
    private static void worthOfKinds() {
        int[] worth = {1, 2, 50, 5, 25, 0, 0};
        for (int kind = 0; kind < 7; kind++) {
            PennyLedge x = Due.shelf(Due.times(3, "token at 3 5"), Due.times(3, "token at 0 5"), "token at 3 3");
            x.beats(1);
            x.change(2, kind);
            x.change(5, kind);
            x.change(6, kind);
            Due.is("of kind " + kind, x.of(6, 3), worth[kind]);
            Due.is("on the shelf, kind " + kind, x.count(3), worth[kind]);
            Due.is("WON, kind " + kind, x.now(1), worth[kind]);
            Due.is("the HOUSE's, kind " + kind, x.now(6), worth[kind]);
        }
    }

    /** "WEIGHS: COIN: 1. BIG: as a COIN, and 1. WATCH: as a COIN, and 4. ..": as told, and as FORCE has it. */
    private static void weighsOfKinds() {
        int[] weighs = {1, 2, 5, 3, 5, 1, 3};
        for (int kind = 0; kind < 7; kind++) {
            PennyLedge x = new PennyLedge();
            x.lay(x.coin(kind), 3, 0);
            Due.is("of kind " + kind, x.of(0, 4), weighs[kind]);
            Due.is("the run's, kind " + kind, x.weight(3), weighs[kind]);
            x.set(0, weighs[kind] - 1);
            Due.is("too heavy, kind " + kind, x.moved(), 0);
            x.set(0, weighs[kind]);
            Due.is("light enough, kind " + kind, x.moved(), 8);
        }
    }

    /** "SLIDES (whether it does off a stack): COIN: yes. WATCH: no. BENT: yes. LEAD: no. (Others as the KIND above.)" */
    private static void slidesOfKinds() {
        int[] slides = {1, 1, 0, 1, 1, 1, 0};
        for (int kind = 0; kind < 7; kind++) {
            PennyLedge x = Due.shelf("lead at 3 5;lead at 3 5");
            x.lay(x.coin(kind), 3, 5);
            Due.is("of kind " + kind, x.of(2, 5), slides[kind]);
            Due.is("kind " + kind, x.beats(1), slides[kind]);
        }
    }

    /** "FORCE (0 to 60; 8 at first)": as it pushes. */
    private static void forceAtFirst() {
        PennyLedge x = Due.shelf("watch at 3 0;crown at 3 1;watch at 4 0;crown at 4 0;token at 4 1");
        Due.is("8 is moved, 9 is not", x.moved(), 8);
        x.beats(1);
        Due.is("moved", x.of(0, 1), 31);
        Due.is("not moved", x.of(2, 1), 40);
    }

    /** "STROKE (1 to 6; 2 at first)": BEATS 0 and 2 push, 1 and 3 do not. */
    private static void strokeAtFirst() {
        boolean[] pushes = {true, false, true, false, true};
        for (int beat = 0; beat < pushes.length; beat++) {
            PennyLedge x = Due.shelf("coin");
            Due.toBeat(x, beat);
            x.lay(0, 3, 0);
            x.beats(1);
            Due.is("BEAT " + beat, x.of(0, 1), pushes[beat] ? 31 : 30);
        }
    }

    /** "SIDES: how many COLUMNS at each side are the HOUSE's (0 to 3; 1 at first)". */
    private static void sidesAtFirst() {
        int[] places = {102, 101, 101, 101, 101, 101, 102};
        sidesAre(new PennyLedge(), places);
    }

    private static void sidesOfNone() {
        PennyLedge x = new PennyLedge();
        x.set(2, 0);
        sidesAre(x, new int[] {101, 101, 101, 101, 101, 101, 101});
    }

    private static void sidesOfTwo() {
        PennyLedge x = new PennyLedge();
        x.set(2, 2);
        sidesAre(x, new int[] {102, 102, 101, 101, 101, 102, 102});
    }

    private static void sidesOfThree() {
        PennyLedge x = new PennyLedge();
        x.set(2, 3);
        sidesAre(x, new int[] {102, 102, 102, 101, 102, 102, 102});
    }

    private static void sidesAre(PennyLedge x, int[] places) {
        for (int column = 0; column < 7; column++) {
            for (int i = 0; i < 3; i++) {
                x.lay(x.coin(0), column, 5);
            }
        }
        Due.is("one of each column", x.beats(1), 7);
        for (int column = 0; column < 7; column++) {
            Due.is("column " + column, x.of(3 * column + 2, 1), places[column]);
        }
    }

    /** "What goes over in a COLUMN of the SIDES is the HOUSE's, else it is WON": by a push and by a jolt, too. */
    private static void sidesOfPushes() {
        for (int column = 0; column < 7; column++) {
            PennyLedge x = new PennyLedge();
            for (int row = 0; row < 6; row++) {
                x.lay(x.coin(0), column, row);
            }
            x.lay(x.coin(1), 6 - column, 5);
            x.beats(1);
            boolean house = column == 0 || column == 6;
            Due.is("pushed, column " + column, x.of(5, 1), house ? 102 : 101);
        }
        PennyLedge x = new PennyLedge();
        for (int column = 0; column < 7; column++) {
            x.lay(x.coin(0), column, 5);
            x.lay(x.coin(0), column, 5);
        }
        x.jolt();
        for (int column = 0; column < 7; column++) {
            Due.is("jolted, column " + column, x.of(2 * column + 1, 1), column % 6 == 0 ? 102 : 101);
        }
    }

    /** "BEAT is 0 at first (9999 at most)". */
    private static void beatAtMost() {
        PennyLedge x = Due.shelf("coin;coin");
        Due.is("at first", x.now(0), 0);
        Due.toBeat(x, 9998);
        Due.is("two more", x.beats(2), Due.STATE);
        Due.is("one more", x.beats(1), 0);
        Due.is("at most", x.now(0), 9999);
        Due.is("none more", x.beats(1), Due.STATE);
        Due.is("nor by a drop", x.drop(0, 0), Due.STATE);
        Due.is("still", x.count(0), 9999);
    }

    // ---- 2: a beat

    /** "if the rest of BEAT by STROKE is 0": for each STROKE, BEATS 0 to 13. */
    private static void strokes() {
        for (int stroke = 1; stroke <= 6; stroke++) {
            PennyLedge x = Due.shelf("coin");
            x.set(1, stroke);
            for (int beat = 0; beat <= 13; beat++) {
                x.lay(0, 3, 0);
                x.beats(1);
                Due.is("STROKE " + stroke + ", BEAT " + beat, x.of(0, 1), beat % stroke == 0 ? 31 : 30);
                x.lift(3, x.of(0, 1) - 30);
            }
        }
    }

    /** "the RUN of a COLUMN: its ROWS from 0 on that have COINS, as far as they follow one another". */
    private static void runsFromRow0() {
        PennyLedge x = Due.shelf(REST_OF_RUN, "coin at 2 0;coin at 2 2;coin at 4 0;coin at 4 1;coin at 4 5");
        Due.is("row 0 is empty", x.run(3), 0);
        Due.is("row 1 is empty", x.run(2), 1);
        Due.is("row 2 is empty", x.run(4), 2);
        Due.is("none goes over", x.beats(1), 0);
        int[] cells = {31, 32, 33, 34, 35, 21, 22, 41, 42, 45};
        for (int coin = 0; coin < cells.length; coin++) {
            Due.is("coin " + coin, x.of(coin, 1), cells[coin]);
        }
    }

    /** "if there is one": where none is, nothing is pushed, however great FORCE is. */
    private static void noRun() {
        PennyLedge x = Due.shelf("force 60", REST_OF_RUN);
        Due.is("moved", x.moved(), 0);
        Due.is("over", x.beats(60), 0);
        Due.is("where it was", x.of(4, 1), 35);
        PennyLedge none = Due.shelf("force 0");
        Due.is("moved, FORCE 0", none.moved(), 0);
    }

    /** "all COINS of it WEIGH FORCE or less together": FORCE 5, 6, 7 for a run of 6. */
    private static void weighsForce() {
        for (int force = 5; force <= 7; force++) {
            PennyLedge x = Due.shelf("coin at 3 0", REST_OF_RUN);
            x.set(0, force);
            Due.is("moved, FORCE " + force, x.moved(), force < 6 ? 0 : 8);
            Due.is("over, FORCE " + force, x.beats(1), force < 6 ? 0 : 1);
            Due.is("row 0, FORCE " + force, x.height(3, 0), force < 6 ? 1 : 0);
        }
    }

    /** FORCE is 60 at most: what weighs 61 is never pushed. */
    private static void weighs60() {
        PennyLedge x = new PennyLedge();
        x.set(0, 60);
        for (int i = 0; i < 12; i++) {
            x.lay(x.coin(2), 3, i % 6);
        }
        Due.is("60", x.weight(3), 60);
        Due.is("60 is moved", x.moved(), 8);
        x.lay(x.coin(5), 3, 0);
        Due.is("61", x.weight(3), 61);
        Due.is("61 is not", x.moved(), 0);
        Due.is("nor pushed", x.beats(1), 0);
        x.lift(3, 0);
        Due.is("60 is pushed", x.beats(2), 2);
    }

    /** "WEIGH FORCE or less": FORCE 0 pushes nothing, as there is no COIN that weighs nothing. */
    private static void forceOfNone() {
        for (int kind = 0; kind < 7; kind++) {
            PennyLedge x = new PennyLedge();
            x.set(0, 0);
            x.lay(x.coin(kind), 3, 0);
            Due.is("kind " + kind, x.moved(), 0);
            x.beats(1);
            Due.is("stays", x.of(0, 1), 30);
        }
    }

    /** "each stack of it goes one ROW on; that of ROW 5 goes over": the whole stack, be it of 4. */
    private static void wholeStacks() {
        PennyLedge x = Due.shelf("force 60", Due.times(4, "watch at 3 5"), Due.times(4, "lead at 3 0"));
        for (int row = 1; row < 5; row++) {
            x.lay(x.coin(2), 3, row);
        }
        Due.is("four go over", x.beats(1), 4);
        Due.is("they are WON", x.now(2), 15);
        Due.is("four came to row 1", x.height(3, 1), 4);
        for (int k = 0; k < 4; k++) {
            Due.is("in their order", x.seen(3, 1, k), 4 + k);
        }
        Due.is("row 0 is empty", x.height(3, 0), 0);
    }

    /** "if the stack is higher by 3 or more than that of the next ROW": by 2, 3 and 4. */
    private static void higherBy3() {
        int[][] heights = {{2, 0, 0}, {3, 0, 1}, {4, 0, 1}, {3, 1, 0}, {4, 1, 1}, {4, 2, 0}, {4, 4, 0}, {1, 4, 0}};
        for (int row = 0; row < 5; row++) {
            for (int[] h : heights) {
                PennyLedge x = new PennyLedge();
                x.set(0, 0);
                pile(x, 3, row, h[0]);
                pile(x, 3, row + 1, h[1]);
                Due.is("leaning", x.leaning(), h[2] + (h[1] > 2 ? 1 : 0));
                x.beats(1);
                Due.is("row " + row + ", " + h[0] + " beside " + h[1], x.height(3, row), h[0] - h[2]);
            }
        }
    }

    /** "(of ROW 5: if it has 3 or more)": 1 to 4, whatever is in the next column. */
    private static void threeAtTheEdge() {
        for (int high = 1; high <= 4; high++) {
            PennyLedge x = new PennyLedge();
            x.set(0, 0);
            pile(x, 3, 5, high);
            pile(x, 4, 0, 2);
            Due.is("leaning of " + high, x.leaning(), high >= 3 ? 1 : 0);
            Due.is("over of " + high, x.beats(1), high >= 3 ? 1 : 0);
            Due.is("left of " + high, x.height(3, 5), Math.min(high, Math.max(2, high - 1)));
        }
    }

    private static void pile(PennyLedge x, int column, int row, int high) {
        for (int i = 0; i < high; i++) {
            x.lay(x.coin(0), column, row);
        }
    }

    /** "and its top COIN SLIDES": of each KIND, onto the next row and over the edge; only the top one counts. */
    private static void topSlides() {
        int[] slides = {1, 1, 0, 1, 1, 1, 0};
        for (int top = 0; top < 7; top++) {
            for (int row = 4; row <= 5; row++) {
                PennyLedge x = new PennyLedge();
                x.set(0, 0);
                x.lay(x.coin(2), 3, row);
                x.lay(x.coin(6), 3, row);
                x.lay(x.coin(top), 3, row);
                Due.is("leaning, kind " + top, x.leaning(), slides[top]);
                x.beats(1);
                Due.is("row " + row + ", kind " + top, x.height(3, row), 3 - slides[top]);
            }
        }
        PennyLedge y = Due.shelf("force 0;coin at 3 5;coin at 3 5;lead at 3 5");
        Due.is("what lies below does not slide", y.beats(60), 0);
    }

    /** Of COINS 0 and 23 as of the others: onto the next row, and over the edge. */
    private static void firstAndLastCoinSlide() {
        PennyLedge x = new PennyLedge();
        x.set(0, 0);
        for (int i = 0; i < 24; i++) {
            x.coin(0);
        }
        int[] below = {1, 2, 3, 4, 5, 6, 7, 8};
        int[] cells = {24, 24, 35, 35, 44, 44, 55, 55};
        for (int i = 0; i < below.length; i++) {
            x.lay(below[i], cells[i] / 10, cells[i] % 10);
        }
        x.lay(0, 2, 4);
        x.lay(23, 3, 5);
        x.beats(1);
        Due.is("0, onto the next row", x.of(0, 1), 25);
        Due.is("23, over the edge", x.of(23, 1), 101);
        x.lift(2, 5);
        x.lay(0, 5, 5);
        x.lay(22, 4, 4);
        x.beats(1);
        Due.is("0, over the edge", x.of(0, 1), 101);
        Due.is("22, onto the next row", x.of(22, 1), 45);
    }

    /** What a slide makes light enough is pushed when STROKE BEATS are gone, however many went quietly in between. */
    private static void pushStrokeBeatsBehindSlide() {
        for (int stroke = 1; stroke <= 6; stroke++) {
            PennyLedge x = Due.shelf("coin at 3 0;coin at 3 1;coin at 3 2;coin at 3 3;coin at 3 4", Due.times(3, "big at 3 5"));
            x.set(0, 10);
            x.set(1, stroke);
            Due.is("weight", x.weight(3), 11);
            Due.is("one slides over, STROKE " + stroke, x.ahead(stroke, 1), 1);
            Due.is("the others are pushed over, STROKE " + stroke, x.ahead(stroke + 1, 1), 3);
            Due.is("they go, STROKE " + stroke, x.beats(stroke + 1), 3);
        }
    }

    /** (a) comes ahead of (b), and (b) sees what (a) made. */
    private static void pushAheadOfSlides() {
        PennyLedge x = Due.shelf(Due.times(4, "coin at 3 4"), "coin at 3 0;coin at 3 1;coin at 3 2;coin at 3 3");
        Due.is("pushed to the edge, then one slides over", x.beats(1), 1);
        Due.is("that", x.now(2), 8);
        PennyLedge y = Due.shelf("coin at 3 0;coin at 3 1;coin at 3 2;coin at 3 3;coin at 3 4", Due.times(3, "coin at 3 5"));
        Due.is("all three are pushed over, none slides", y.beats(1), 3);
        Due.is("one came behind", y.height(3, 5), 1);
    }

    /** "Then BEAT is one more": (a) sees it as it was ahead. */
    private static void beatIsOneMore() {
        PennyLedge x = Due.shelf("stroke 6;coin at 3 0");
        x.beats(1);
        Due.is("BEAT", x.now(0), 1);
        Due.is("BEAT 0 pushed", x.of(0, 1), 31);
    }

    // ---- 2: to drop

    /** "onto the stack of ROW 0 if BEAT is even, of ROW 1 if it is odd". */
    private static void evenAndOdd() {
        PennyLedge x = Due.shelf("force 0;coin;coin;coin;coin");
        for (int beat = 0; beat < 4; beat++) {
            x.drop(beat, 5);
            Due.is("BEAT " + beat, x.of(beat, 1), 50 + beat % 2);
        }
        Due.is("BEAT", x.now(0), 4);
    }

    /** "if that has 4, onto the one of the next COLUMN up": 3 have room, 4 have none. */
    private static void nextColumnUp() {
        for (int high = 2; high <= 4; high++) {
            PennyLedge x = Due.shelf("force 0;lead;lead");
            for (int i = 0; i < high; i++) {
                x.lay(x.coin(2), 2, 0);
                x.lay(x.coin(2), 2, 1);
            }
            x.drop(0, 2);
            Due.is("row 0, onto " + high, x.of(0, 1), high == 4 ? 30 : 20);
            x.drop(1, 2);
            Due.is("row 1, onto " + high, x.of(1, 1), high == 4 ? 31 : 21);
        }
    }

    /** "(as long as they have 4; if none up to 6 has room, it is the HOUSE's)". */
    private static void noneUpTo6() {
        PennyLedge x = Due.shelf("force 0;lead;coin;big", Due.times(4, "watch at 4 0"), Due.times(4, "watch at 5 0"));
        for (int i = 0; i < 3; i++) {
            x.lay(x.coin(2), 6, 0);
        }
        Due.is("past two", x.drop(0, 4), -1);
        Due.is("column 6", x.of(0, 1), 60);
        x.beats(1);
        Due.is("past three", x.drop(2, 4), -1);
        Due.is("the HOUSE's, not column 0 or 3", x.of(2, 1), 102);
        Due.is("its WORTH", x.now(6), 2);
        Due.is("it was DROPPED", x.now(5), 2);
        Due.is("its BEAT went", x.now(0), 3);
        x.beats(1);
        Due.is("from column 6 itself", x.drop(1, 6), -1);
        Due.is("the HOUSE's, too", x.now(3), 6);
    }

    /** "then a BEAT goes": with the coin on the shelf. */
    private static void dropThenBeat() {
        PennyLedge x = Due.shelf("coin", REST_OF_RUN);
        Due.is("it makes the run", x.drop(0, 3), 0);
        Due.is("and is pushed", x.of(0, 1), 31);
        Due.is("the first row", x.of(5, 1), 101);
    }

    /** "GAIN: WORTH of all COINS WON, less 1 for each COIN ever DROPPED": also for those that came back or are WON. */
    private static void gainOfDrops() {
        PennyLedge x = Due.shelf("force 0;coin;coin");
        x.drop(0, 3);
        x.lift(3, 0);
        x.drop(0, 3);
        Due.is("DROPPED twice", x.now(5), 2);
        Due.is("GAIN", x.now(1), -2);
    }

    /** "each makes it z * 1103515245 + 12345 (an int), and gives z >>> 8": around the ends of int. */
    private static void drawsWrapAround() {
        int[] seeds = {0, 1, -1, Integer.MAX_VALUE, Integer.MIN_VALUE, 12345, -99999, 77};
        for (int seed : seeds) {
            PennyLedge x = Due.shelf("force 0;coin");
            x.seed(seed);
            x.play(1);
            long exact = (long) seed * 1103515245L + 12345L;
            long low = exact & 0xffffffffL;
            Due.is("z", x.count(6), low >= 1L << 31 ? low - (1L << 32) : low);
            Due.is("column by " + seed, x.of(0, 1), 10 * ((low >> 8) % 7));
        }
    }
}
