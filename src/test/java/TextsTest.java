/** Promises 37 to 39. */
public final class TextsTest {
    public static void main(String[] args) {
        feed();
        wipe();
        items();
        faults();
        room();
        tooMany();
        nothingChanges();
        Due.end();
    }

    private static void feed() {
        PennyLedge x = new PennyLedge();
        Due.is("37: four", x.feed(0x636f696e, 4), 4);
        Due.is("37: coin", x.text(), 1);
        Due.is("37: the lowest two", x.feed(0x41416269, 2), 2);
        Due.is("37: the lowest one", x.feed(0x41414167, 1), 3);
        Due.is("37: big", x.text(), 1);
        Due.is("37: three", x.feed(0x41626967, 3), 3);
        Due.is("37: big again", x.text(), 1);
        Due.is("37: its kind", x.of(2, 0), 1);
        Due.is("37: n 0", x.feed(0, 0), Due.BEYOND);
        Due.is("37: n 5", x.feed(0, 5), Due.BEYOND);
        Due.is("37: n -1", x.feed(0, -1), Due.BEYOND);
        for (int i = 1; i <= 29; i++) {
            Due.is("37: more", x.feed(-1, 4), 4 * i);
        }
        Due.is("37: 119", x.feed(0, 3), 119);
        Due.is("37: none beyond 120", x.feed(0, 2), Due.FULL);
        Due.is("37: n 5 when full", x.feed(0, 5), Due.BEYOND);
        Due.is("37: 120", x.feed(0, 1), 120);
        Due.is("37: full", x.feed(0, 1), Due.FULL);
        Due.is("37: how many", x.count(5), 120);
    }

    private static void wipe() {
        PennyLedge x = new PennyLedge();
        Due.feed(x, "coin");
        Due.is("38: had", x.wipe(), 4);
        Due.is("38: empty", x.count(5), 0);
        Due.is("38: had none", x.wipe(), 0);
        Due.is("38: nothing to read", x.text(), -1);
    }

    private static void items() {
        PennyLedge x = new PennyLedge();
        Due.is("39: seven", Due.tell(x, "coin;big;watch;crown;bent;token;lead"), 7);
        for (int kind = 0; kind < 7; kind++) {
            Due.is("39: kind " + kind, x.of(kind, 0), kind);
            Due.is("39: in the hand", x.of(kind, 1), 100);
        }
        Due.is("39: cells and settings", Due.tell(x, "lead at 6 5;force 60;stroke 6;sides 3;coin at 0 0"), 5);
        Due.is("39: cell", x.of(7, 1), 65);
        Due.is("39: the other cell", x.of(8, 1), 0);
        Due.is("39: FORCE", x.set(0, 8), 60);
        Due.is("39: STROKE", x.set(1, 2), 6);
        Due.is("39: SIDES", x.set(2, 1), 3);
        Due.is("39: THE TAPE is empty then", x.count(5), 0);
        Due.is("39: blanks where they may stand", Due.tell(x, "  big   at3  4 ;  force00012  ;stroke1;sides 0 "), 4);
        Due.is("39: its cell", x.of(9, 1), 34);
        Due.is("39: its kind", x.of(9, 0), 1);
        Due.is("39: FORCE, with noughts", x.set(0, 8), 12);
        Due.is("39: the last setting counts", Due.tell(x, "force 3;force 4"), 2);
        Due.is("39: FORCE 4", x.set(0, 8), 4);
        Due.is("39: least settings", Due.tell(x, "force 0;stroke 1;sides 0"), 3);
        Due.is("39: no finding", x.status(-1), 0);
    }

    private static void fault(String text, int place) {
        PennyLedge x = new PennyLedge();
        Due.is("39: \"" + text + "\"", Due.tell(x, text), -1 - place);
        Due.is("39: empty", x.count(5), 0);
        Due.is("39: no coins", x.count(1), 0);
        Due.is("39: FORCE as at first", x.set(0, 8), 8);
        Due.is("39: no finding", x.status(-1), 0);
    }

    private static void faults() {
        String[] texts = {"", "   ", "coin;", "coin; ", "coin at", "coin at 3", "coin at 3 ", "force", "force 3;", "sides "};
        for (String text : texts) {
            fault(text, text.length());
        }
        fault("dime", 0);
        fault("coins", 0);
        fault("coi", 0);
        fault("coinat 3 3", 0);
        fault("coin at3 3at", 10);
        fault("at 3 3", 0);
        fault(";coin", 0);
        fault("coin;;coin", 5);
        fault("coin coin", 5);
        fault("coin 3 3", 5);
        fault("coin at coin", 8);
        fault("coin at ;", 8);
        fault("coin at 7 0", 8);
        fault("coin at 0 6", 10);
        fault("coin at 33", 8);
        fault("coin at 3 3 3", 12);
        fault("coin at 3;3", 9);
        fault("coin at 3 at", 10);
        fault("force 61", 6);
        fault("force 99999", 6);
        fault("force 4294967296", 6);
        fault("force force", 6);
        fault("force 3 3", 8);
        fault("force 3 at 3 3", 8);
        fault("stroke 0", 7);
        fault("stroke 7", 7);
        fault("sides 4", 6);
        fault("sides -1", 6);
        fault("coin#", 4);
        fault("coinz", 0);
        fault("coin{", 4);
        fault("coin`", 4);
        fault("force 3:", 7);
        fault("force 3/", 7);
        fault("Coin", 0);
        fault("coin\tat 3 3", 4);
        fault("coin;\u00e9", 5);
        fault("coin at 3 \u00ff", 10);
        fault("coin;force 9;stroke 3;dime", 22);
        fault("12", 0);
    }

    private static void room() {
        PennyLedge x = Due.shelf(Due.times(3, "coin at 2 2"));
        Due.is("39: a fourth", Due.tell(x, "coin at 2 2"), 1);
        Due.is("39: no fifth: its row", Due.tell(x, "coin at 2 2"), -11);
        Due.is("39: nothing changed", x.count(1), 4);
        Due.is("39: as the text tells it, item by item", Due.tell(x, Due.times(5, "coin at 2 3")), -1 - 58);
        Due.is("39: not one of them", x.count(1), 4);
        Due.is("39: none there", x.height(2, 3), 0);
        Due.is("39: four of them", Due.tell(x, Due.times(4, "coin at 2 3")), 4);
    }

    private static void tooMany() {
        PennyLedge x = Due.shelf(Due.times(23, "coin"));
        Due.is("39: a 25th: its own place", Due.tell(x, "coin at 3 3;big at 7 7"), -13);
        Due.is("39: a 24th", Due.tell(x, "force 1;coin at 3 3;sides 0"), 3);
        Due.is("39: its word, whatever follows", Due.tell(x, "force 5;lead at 9"), -9);
        Due.is("39: settings all the same", Due.tell(x, "force 5"), 1);
        Due.is("39: coins", x.count(1), 24);
    }

    private static void nothingChanges() {
        PennyLedge x = Due.shelf("coin at 3 3;force 5;stroke 3;sides 2");
        x.seed(9);
        Due.is("39: fault", Due.tell(x, "coin at 4 4;force 9;stroke 1;sides 0;watch at 3 3;dime"), -1 - 50);
        Due.is("39: coins", x.count(1), 1);
        Due.is("39: height", x.height(3, 3), 1);
        Due.is("39: the other height", x.height(4, 4), 0);
        Due.is("39: FORCE", x.set(0, 0), 5);
        Due.is("39: STROKE", x.set(1, 1), 3);
        Due.is("39: SIDES", x.set(2, 0), 2);
        Due.is("39: z", x.count(6), 9);
        x.drop(x.coin(0), 3);
        Due.is("39: texts leave BEAT", Due.tell(x, "coin"), 1);
        Due.is("39: BEAT", x.now(0), 1);
        Due.is("39: DROPPED", x.now(5), 1);
    }
}
