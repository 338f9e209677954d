import java.util.function.Supplier;

/** Promises 37 to 39: a test for each sentence that names a bound. */
public final class TextEdgesTest {
    private static final int MIN = Integer.MIN_VALUE;
    private static final int MAX = Integer.MAX_VALUE;

    public static void main(String[] args) throws Exception {
        Due.each(TextEdgesTest.class);
    }

    private static Supplier<PennyLedge> tapeOf(int bytes) {
        return () -> {
            PennyLedge x = Twin.rich();
            x.wipe();
            Due.feed(x, "force 3".repeat(20).substring(0, bytes));
            return x;
        };
    }

    // ---- 37

    private static void feedMany() {
        Twin.refuses(Twin::rich, Due.BEYOND,
            x -> x.feed(65, 0), x -> x.feed(65, 5), x -> x.feed(65, -1), x -> x.feed(65, MIN), x -> x.feed(65, MAX));
        PennyLedge x = new PennyLedge();
        Due.is("n 1", x.feed(0, 1), 1);
        Due.is("n 4", x.feed(0, 4), 5);
        Due.is("n 3", x.feed(0, 3), 8);
        Due.is("n 2", x.feed(0, 2), 10);
    }

    /** At most 120 bytes: n more fit, n + 1 do not, and none of them comes. */
    private static void feedFull() {
        for (int n = 1; n <= 4; n++) {
            int more = n;
            Due.is("to 120 by " + n, tapeOf(120 - n).get().feed(0, n), 120);
            Twin.refuses(tapeOf(121 - n), Due.FULL, x -> x.feed(65, more));
            Twin.refuses(tapeOf(120), Due.FULL, x -> x.feed(65, more));
        }
    }

    private static void feedBeyondAheadOfFull() {
        Twin.refuses(tapeOf(120), Due.BEYOND, x -> x.feed(65, 5), x -> x.feed(65, 0), x -> x.feed(65, MAX));
    }

    /** "the n lowest bytes of a number .., the highest of these first": what stands above them is nothing. */
    private static void feedLowestBytes() {
        PennyLedge x = new PennyLedge();
        x.feed(0x41626967, 3);
        Due.is("3 of 4", x.text(), 1);
        Due.is("big", x.of(0, 0), 1);
        x.feed(0x4241626f, 1);
        x.feed(0x41410000 + 'i' * 256 + 'n', 2);
        Due.is("oin", x.text(), -1);
        x.feed(-1 << 8 | 'c', 1);
        x.feed(-1 << 16 | 'o' << 8 | 'i', 2);
        x.feed('n', 1);
        Due.is("of numbers below 0", x.text(), 1);
        Due.is("coin", x.of(1, 0), 0);
    }

    /** A byte is 0 to 255, of what sign the number may be. */
    private static void feedSigns() {
        PennyLedge x = new PennyLedge();
        Due.is("MIN", x.feed(MIN, 4), 4);
        Due.is("-1", x.feed(-1, 4), 8);
        Due.is("MAX", x.feed(MAX, 1), 9);
        Due.is("begins no TOKEN", x.text(), -1);
    }

    // ---- 38

    private static void wipeEmptyAndFull() {
        PennyLedge x = new PennyLedge();
        Due.is("empty", x.wipe(), 0);
        x = tapeOf(120).get();
        Due.is("full", x.wipe(), 120);
        Due.is("then", x.count(5), 0);
        Due.is("again", x.wipe(), 0);
        Due.is("room again", x.feed(0, 4), 4);
        Twin.leaves(() -> Due.shelf("coin at 3 3"), 0, y -> y.wipe());
    }

    // ---- 39: a text that is told

    /** The longest: 24 ITEMS in 119 bytes and a blank. */
    private static void textFull() {
        PennyLedge x = new PennyLedge();
        Due.feed(x, Due.times(24, "coin") + " ");
        Due.is("bytes", x.count(5), 120);
        Due.is("ITEMS", x.text(), 24);
        Due.is("COINS", x.count(1), 24);
        Due.is("THE TAPE", x.count(5), 0);
    }

    private static void textOfOneItem() {
        PennyLedge x = new PennyLedge();
        Due.is("big", Due.tell(x, "big"), 1);
        Due.is("its KIND", x.of(0, 0), 1);
        Due.is("in the HAND without at", x.of(0, 1), 100);
        Due.is("sides", Due.tell(new PennyLedge(), "sides0"), 1);
    }

    /** The text takes place only if all of it can be told: else nothing changes but that THE TAPE is empty. */
    private static void textWithFaultChangesNothing() {
        String[] faulty = {"", "coin;", "big at 2 2;dime", "force 5;stroke 1;sides 0;coin at 0 0;crown at 7 0",
            "watch at 5 5;watch at 3 5;coin at 3 5;coin at 3 5"};
        for (String text : faulty) {
            PennyLedge probe = Twin.rich();
            probe.wipe();
            Due.feed(probe, text);
            int fault = probe.text();
            Due.is("a fault: " + text, fault < 0 && fault > -100 ? 1 : 0, 1);
            Twin.leaves(() -> emptied(), fault, x -> {
                Due.feed(x, text);
                return x.text();
            });
        }
    }

    private static PennyLedge emptied() {
        PennyLedge x = Twin.rich();
        x.wipe();
        return x;
    }

    /** "(no finding)": also of a fault. */
    private static void textIsNoFinding() {
        PennyLedge x = new PennyLedge();
        Due.is("ends too early", x.text(), -1);
        Due.is("of 120 bytes", Due.tell(x, "coin;".repeat(24)), -121);
        Due.is("status", x.status(-1), 0);
    }

    /** "all that it tells is so, item by item": a later one may say otherwise. */
    private static void textItemByItem() {
        PennyLedge x = new PennyLedge();
        Due.is("ITEMS", Due.tell(x, "force 1;coin at 3 3;force 2;big at 3 3;stroke 6;stroke 5"), 6);
        Due.is("FORCE", x.set(0, 0), 2);
        Due.is("STROKE", x.set(1, 1), 5);
        Due.is("undermost", x.seen(3, 3, 0), 0);
        Due.is("on it", x.seen(3, 3, 1), 1);
    }

    // ---- 39: numbers

    private static void fault(String text, int place) {
        PennyLedge x = new PennyLedge();
        Due.is("\"" + text + "\"", Due.tell(x, text), -1 - place);
        Due.is("\"" + text + "\" leaves bytes", x.count(5), 0);
        Due.is("\"" + text + "\" leaves coins", x.count(1), 0);
        Due.is("\"" + text + "\" leaves FORCE", x.set(0, 8), 8);
        Due.is("\"" + text + "\" leaves STROKE", x.set(1, 2), 2);
        Due.is("\"" + text + "\" leaves SIDES", x.set(2, 1), 1);
    }

    /** "COLUMN 0 to 6". */
    private static void textColumns() {
        Due.is("0", Due.shelf("coin at 0 3").of(0, 1), 3);
        Due.is("6", Due.shelf("coin at 6 3").of(0, 1), 63);
        fault("coin at 7 3", 8);
        fault("coin at 10 3", 8);
    }

    /** "ROW 0 to 5". */
    private static void textRows() {
        Due.is("0", Due.shelf("coin at 3 0").of(0, 1), 30);
        Due.is("5", Due.shelf("coin at 3 5").of(0, 1), 35);
        fault("coin at 3 6", 10);
        fault("coin at 3 50", 10);
    }

    /** "a stack with room": the fourth has, a fifth has not: "with a stack that has 4 that of its ROW". */
    private static void textStackWithRoom() {
        PennyLedge x = Due.shelf("coin at 3 4;coin at 3 4;coin at 3 4");
        Due.is("a fourth", Due.tell(x, "force 5;coin at 3 4"), 2);
        Due.is("a fifth", Due.tell(x, "force 6;coin at 3 4"), -1 - 18);
        Due.is("the one before is not told", x.set(0, 5), 5);
        Due.is("a fifth, its ROW far off", Due.tell(x, "coin   at 3     4;dime"), -1 - 16);
        Due.is("beside it", Due.tell(x, "coin at 3 5"), 1);
        Due.is("five in one text", Due.tell(x, Due.times(5, "big at 0 0")), -1 - 53);
    }

    /** "force and a NUMBER (0 to 60)". */
    private static void textForce() {
        Due.is("0", Due.shelf("force 0").set(0, 8), 0);
        Due.is("60", Due.shelf("force 60").set(0, 8), 60);
        fault("force 61", 6);
        fault("force 100", 6);
    }

    /** "stroke and a NUMBER (1 to 6)". */
    private static void textStroke() {
        Due.is("1", Due.shelf("stroke 1").set(1, 2), 1);
        Due.is("6", Due.shelf("stroke 6").set(1, 2), 6);
        fault("stroke 0", 7);
        fault("stroke 7", 7);
    }

    /** "sides and a NUMBER (0 to 3)". */
    private static void textSides() {
        Due.is("0", Due.shelf("sides 0").set(2, 1), 0);
        Due.is("3", Due.shelf("sides 3").set(2, 1), 3);
        fault("sides 4", 6);
        fault("sides 9", 6);
    }

    /** "NUMBERS (digits, 9999 at most)": none of more is 0 to 60 by wrapping around. */
    private static void textGreatNumbers() {
        String[] great = {"9999", "10000", "65541", "4294967296", "4294967301", "18446744073709551621",
            "8589934592", "99999999999999999999999999999999999999"};
        for (String number : great) {
            fault("force " + number, 6);
            fault("coin at " + number + " 0", 8);
            fault("coin at 0 " + number, 10);
        }
    }

    /** A NUMBER may have noughts ahead, as many as there is room for. */
    private static void textNoughts() {
        Due.is("force", Due.shelf("force 000060").set(0, 8), 60);
        Due.is("cells", Due.shelf("coin at 00006 00000000000005").of(0, 1), 65);
        Due.is("to the end of THE TAPE", Due.shelf("force" + "0".repeat(113) + "60").set(0, 8), 60);
    }

    // ---- 39: tokens

    /** "each as long as can be": words and numbers end where another sign begins. */
    private static void textTokensAreLong() {
        fault("coinat 3 3", 0);
        fault("coin at 33", 8);
        fault("force 6 0", 8);
        fault("forc e 6", 0);
        fault("co in", 0);
        Due.is("at behind a blank, a number at once", Due.shelf("coin at3 4").of(0, 1), 34);
        Due.is("number and SIGN at once", Due.tell(new PennyLedge(), "force6;sides3;coin"), 3);
    }

    /** "blanks may stand between": none, one, many, ahead of all and behind all. */
    private static void textBlanks() {
        Due.is("many", Due.tell(new PennyLedge(), "   coin   at   3   4   ;   force   6   "), 2);
        Due.is("ahead", Due.tell(new PennyLedge(), " big"), 1);
        Due.is("behind", Due.tell(new PennyLedge(), "big "), 1);
        Due.is("none but where two would be one", Due.tell(new PennyLedge(), "big;coin at0 0;stroke1"), 3);
        fault("  dime", 2);
        fault("big ;  dime", 7);
    }

    /** Any of the 256 bytes as the first of a text. */
    private static void textFirstByte() {
        for (int b = 0; b < 256; b++) {
            fault("" + (char) b, b == ' ' ? 1 : 0);
            fault((char) b + "#", b == ' ' ? 1 : 0);
        }
    }

    /** Any of them behind the WORD of a COIN: it goes on with it, is a blank, a SIGN, or can't stand there. */
    private static void textByteBehindWord() {
        for (int b = 0; b < 256; b++) {
            boolean letter = b >= 'a' && b <= 'z';
            if (b == ' ') {
                Due.is("a blank", Due.tell(new PennyLedge(), "coin "), 1);
            } else {
                fault("coin" + (char) b, letter ? 0 : b == ';' ? 5 : 4);
            }
        }
    }

    /** Any of them where a ROW is due. */
    private static void textByteForRow() {
        for (int b = 0; b < 256; b++) {
            if (b >= '0' && b <= '5') {
                Due.is("a ROW", Due.tell(new PennyLedge(), "coin at 3 " + (char) b), 1);
            } else {
                fault("coin at 3 " + (char) b, b == ' ' ? 11 : 10);
            }
        }
    }

    /** Any of them behind a NUMBER. */
    private static void textByteBehindNumber() {
        for (int b = 0; b < 256; b++) {
            if (b == ' ' || b >= '0' && b <= '9') {
                Due.is("byte " + b, Due.tell(new PennyLedge(), "force 5" + (char) b), 1);
            } else {
                fault("force 5" + (char) b, b == ';' ? 8 : 7);
            }
        }
    }

    // ---- 39: what can't stand there

    /** "or how many bytes there are if it ends too early": behind each token that needs another. */
    private static void textEndsTooEarly() {
        String[] early = {"", " ", "big;", "big; ", "big at", "big at ", "big at 3", "big at 3 ", "force", "force ",
            "stroke", "sides", "big at 3 3;", "force 3;", "big;big at 3"};
        for (String text : early) {
            fault(text, text.length());
        }
    }

    /** "another WORD": one that is no ITEM's begin, or is not at. */
    private static void textOtherWords() {
        String[] others = {"a", "at", "coi", "coins", "bigg", "watc", "crow", "bents", "toke", "leads", "forced", "strok",
            "side", "z", "abcdefghijklmnopqrstuvwxyz"};
        for (String other : others) {
            fault(other, 0);
            fault("big;" + other, 4);
            if (!other.equals("at")) {
                fault("big " + other + " 3 3", 4);
            }
            fault("big at " + other, 7);
            fault("big at 3 " + other, 9);
            fault("big at 3 3 " + other, 11);
            fault("force " + other, 6);
            fault("force 3 " + other, 8);
        }
    }

    /** A WORD is another one if any letter of it is, and if one is lacking or too much. */
    private static void textOneLetterOther() {
        String[] words = {"coin", "big", "watch", "crown", "bent", "token", "lead", "force", "stroke", "sides", "at"};
        for (String word : words) {
            boolean at = word.equals("at");
            String ahead = at ? "big " : "";
            String behind = at ? " 3 3" : " 3";
            for (int i = 0; i < word.length(); i++) {
                char other = word.charAt(i) == 'z' ? 'a' : (char) (word.charAt(i) + 1);
                fault(ahead + word.substring(0, i) + other + word.substring(i + 1) + behind, ahead.length());
                fault(ahead + word.substring(0, i) + word.substring(i + 1) + behind, ahead.length());
                fault(ahead + word.substring(0, i) + other + word.substring(i) + behind, ahead.length());
            }
            fault(ahead + word + "z" + behind, ahead.length());
        }
    }

    /** A NUMBER or a SIGN where it can't stand. */
    private static void textNumbersAndSignsElsewhere() {
        fault("3", 0);
        fault(";", 0);
        fault("big;3", 4);
        fault("big;;", 4);
        fault("big 3 3", 4);
        fault("big at ;", 7);
        fault("big at 3;", 8);
        fault("big at 3 3 3", 11);
        fault("force;", 5);
        fault("force 3 3", 8);
        fault("stroke 3 at 3 3", 9);
    }

    /** "another one", where only the first FAULT counts: what stands behind it is not looked at. */
    private static void textFirstFault() {
        fault("dime;#", 0);
        fault("coin at 7 9", 8);
        fault("force 61;stroke 9", 6);
        fault("big big #", 4);
    }

    /** "the WORD of a 25th COIN: its own": a 24th is none, and what follows the 25th does not count. */
    private static void textOf25thCoin() {
        Due.is("24 and a setting", Due.tell(new PennyLedge(), Due.times(23, "big") + ";lead at 0 0;force 5"), 25);
        Due.is("25", Due.tell(new PennyLedge(), Due.times(25, "big")), -1 - 96);
        Due.is("25, that is put nowhere", Due.tell(new PennyLedge(), Due.times(24, "big") + ";lead at 9 9"), -1 - 96);
        PennyLedge x = Due.shelf(Due.times(24, "coin"));
        Due.is("the 25th alone", Due.tell(x, "coin"), -1);
        Due.is("behind a setting", Due.tell(x, "force 5;  watch at 3 3"), -1 - 10);
        Due.is("that is not told", x.set(0, 8), 8);
        Due.is("another WORD is one all the same", Due.tell(x, "force 5;coins"), -1 - 8);
        Due.is("settings can be told", Due.tell(x, "force 5"), 1);
    }
}
