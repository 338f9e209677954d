import java.util.ArrayList;
import java.util.LinkedHashMap;
import java.util.List;
import java.util.Map;
import java.util.function.Supplier;
import java.util.function.ToLongFunction;

/**
 * What a call leaves as it was: two objects are made alike, one of them is asked, and then all that can be seen of
 * both is looked at, also what only an undo, a text or a sheet's columns let one see.
 */
final class Twin {
    private Twin() {
    }

    /** Each of the calls answers the finding, and changes nothing but status(). */
    @SafeVarargs
    static void refuses(Supplier<PennyLedge> made, int finding, ToLongFunction<PennyLedge>... calls) {
        for (int i = 0; i < calls.length; i++) {
            compare("refused call " + (i + 1), made, calls[i], finding, finding);
        }
    }

    /** The call answers so, and changes nothing at all. */
    static void leaves(Supplier<PennyLedge> made, long answer, ToLongFunction<PennyLedge> call) {
        compare("call", made, call, answer, 0);
    }

    /** The call changes nothing at all, whatever it answers. */
    @SafeVarargs
    static void leaves(Supplier<PennyLedge> made, ToLongFunction<PennyLedge>... calls) {
        for (int i = 0; i < calls.length; i++) {
            long answer = calls[i].applyAsLong(made.get());
            compare("call " + (i + 1), made, calls[i], answer, 0);
        }
    }

    private static void compare(
            String name, Supplier<PennyLedge> made, ToLongFunction<PennyLedge> call, long answer, int finding) {
        PennyLedge asked = made.get();
        PennyLedge twin = made.get();
        Due.is(name, call.applyAsLong(asked), answer);
        for (int which = -1; which <= 6; which++) {
            boolean counts = finding != 0 && (which == -1 || finding == -1000001 - which);
            Due.is(name + ", status(" + which + ")", asked.status(which), twin.status(which) + (counts ? 1 : 0));
        }
        Map<String, Long> want = look(twin);
        Map<String, Long> got = look(asked);
        List<String> labels = new ArrayList<>(want.keySet());
        for (String label : got.keySet()) {
            if (!want.containsKey(label)) {
                labels.add(label);
            }
        }
        for (String label : labels) {
            Due.is(name + ", then " + label, got.getOrDefault(label, -1L), want.getOrDefault(label, -1L));
        }
    }

    /** All that can be seen; the object is of no use behind it. */
    private static Map<String, Long> look(PennyLedge x) {
        Map<String, Long> all = new LinkedHashMap<>();
        lookAt(x, "", all);
        for (int cell = 0; cell < 42; cell++) {
            all.put("height of cell " + cell, (long) x.height(cell / 6, cell % 6));
        }
        all.put("undo", (long) x.undo());
        lookAt(x, "undone ", all);
        all.put("text", (long) x.text());
        lookAt(x, "told ", all);
        all.put("tear", (long) x.tear());
        lookAtSheets(x, all);
        return all;
    }

    private static void lookAt(PennyLedge x, String when, Map<String, Long> all) {
        for (int what = 0; what <= 7; what++) {
            all.put(when + "count " + what, (long) x.count(what));
        }
        for (int what = 1; what <= 5; what++) {
            all.put(when + "now " + what, (long) x.now(what));
        }
        int coins = x.count(1);
        for (int coin = 0; coin < coins; coin++) {
            int place = x.of(coin, 1);
            all.put(when + "kind and place of coin " + coin, 1000L * x.of(coin, 0) + place);
            if (place < 100) {
                all.put(when + "depth of coin " + coin, (long) x.of(coin, 2));
            }
        }
        for (int what = 0; what < 3; what++) {
            int v = x.set(what, 1);
            x.set(what, v);
            all.put(when + "set " + what, (long) v);
        }
        for (int spot = 0; spot < 10; spot++) {
            all.put(when + "spot " + spot, (long) x.as(spot, 0));
        }
    }

    /** Columns tell a sheet's numbers, and what becomes of 256 and of 65536 of how many bits they are. */
    private static void lookAtSheets(PennyLedge x, Map<String, Long> all) {
        x.set(0, 0);
        for (int i = 0; i < 4; i++) {
            x.coin(5);
        }
        x.image();
        for (int s = 0; s < 4; s++) {
            int had = x.now(4);
            int came = x.load(s);
            all.put("numbers of sheet " + s, (long) came);
            for (int i = 0; i < came && i < 4; i++) {
                int coin = Integer.numberOfTrailingZeros(had);
                had &= had - 1;
                all.put("number " + i + " of sheet " + s, (long) x.of(coin, 1));
            }
            x.undo();
            if (came < 0) {
                continue;
            }
            x.write(s, 0, 256);
            all.put("256 in sheet " + s, (long) Math.min(1, x.load(s)));
            x.undo();
            x.write(s, 0, 65536);
            all.put("65536 in sheet " + s, (long) Math.min(1, x.load(s)));
            x.undo();
        }
    }

    /** Coins everywhere, another state kept, a text on the tape, sheets of all widths, all settings unusual. */
    static PennyLedge rich() {
        PennyLedge x = Due.shelf("watch at 3 4;coin at 3 5;big at 3 5;coin at 3 5;crown at 0 0;token at 0 0",
            "coin at 6 5;coin at 6 5;bent at 6 5;coin;coin;lead;big;coin;force 9;stroke 3;sides 2");
        x.hold(2, 0);
        x.hold(9, 6);
        sheets(x);
        x.seed(99);
        x.image();
        x.beats(1);
        x.drop(12, 5);
        x.change(4, 6);
        x.hold(0, 3);
        x.set(0, 7);
        x.seed(-5);
        Due.feed(x, "lead at 5 5;force 3");
        return x;
    }

    private static void sheets(PennyLedge x) {
        int[][] rows = {{8, 4, 0, 6}, {16, 1, 5}, {32, 2}};
        for (int s = 0; s < 3; s++) {
            x.sheet(s, rows[s][0], rows[s].length - 1);
            for (int i = 1; i < rows[s].length; i++) {
                x.write(s, i - 1, rows[s][i]);
            }
        }
    }

    /** As many coins as there can be, one of them on the shelf; nothing kept. */
    static PennyLedge crowded() {
        PennyLedge x = Due.shelf(Due.times(20, "coin"), "big;lead;watch;crown at 2 3");
        sheets(x);
        Due.feed(x, "force 3");
        return x;
    }

    /** Coins 0 and 1 on the shelf, 2 to 5 in the hand; an image of BEAT 0 is kept. */
    static Supplier<PennyLedge> far(int beat) {
        return () -> {
            PennyLedge x = Due.shelf("coin at 3 3;watch at 4 0;coin;big;coin;coin");
            sheets(x);
            x.image();
            x.hold(3, 1);
            Due.feed(x, "force 3");
            Due.toBeat(x, beat);
            return x;
        };
    }
}
