import java.nio.charset.StandardCharsets;

/** What the tests share: answers that are due, findings by name, shelves made from texts. */
final class Due {
    static final int BEYOND = -1000001;
    static final int FULL = -1000002;
    static final int KIND = -1000003;
    static final int NONE = -1000004;
    static final int STATE = -1000005;
    static final int MISSING = -1000006;
    static final int SIZE = -1000007;

    private static int asked = 0;
    private static int wrong = 0;

    private Due() {
    }

    static void is(String call, long got, long want) {
        asked++;
        if (got != want) {
            wrong++;
            System.out.println(call + " answered " + got + ", due is " + want);
        }
    }

    static void feed(PennyLedge x, String text) {
        for (byte b : text.getBytes(StandardCharsets.ISO_8859_1)) {
            x.feed(b, 1);
        }
    }

    static int tell(PennyLedge x, String text) {
        feed(x, text);
        return x.text();
    }

    /** A new object that several texts tell of. */
    static PennyLedge shelf(String... texts) {
        PennyLedge x = new PennyLedge();
        for (String text : texts) {
            int answer = tell(x, text);
            if (answer < 0) {
                is("text \"" + text + "\"", answer, 1);
            }
        }
        return x;
    }

    static String times(int n, String item) {
        StringBuilder all = new StringBuilder();
        for (int i = 0; i < n; i++) {
            all.append(i == 0 ? "" : ";").append(item);
        }
        return all.toString();
    }

    /** Lets beats go until BEAT is as told. */
    static void toBeat(PennyLedge x, int beat) {
        while (x.now(0) < beat) {
            x.beats(Math.min(60, beat - x.now(0)));
        }
    }

    static void end() {
        System.out.println(asked + " answers asked, " + wrong + " not as due");
        if (wrong != 0) {
            System.exit(1);
        }
    }
}
