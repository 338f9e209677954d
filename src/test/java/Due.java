import java.lang.reflect.InvocationTargetException;
import java.lang.reflect.Method;
import java.nio.charset.StandardCharsets;
import java.util.Arrays;
import java.util.Comparator;

/**
 * What the tests share: answers that are due, findings by name, shelves made from texts. An object is promised 512
 * calls, so what makes a shelf here takes as few as it can.
 */
final class Due {
    static final int BEYOND = -1000001;
    static final int FULL = -1000002;
    static final int KIND = -1000003;
    static final int NONE = -1000004;
    static final int STATE = -1000005;
    static final int MISSING = -1000006;
    static final int SIZE = -1000007;

    private static String test = "";
    private static int tests = 0;
    private static int asked = 0;
    private static int wrong = 0;

    private Due() {
    }

    static void is(String call, long got, long want) {
        asked++;
        if (got != want) {
            wrong++;
            System.out.println(test + call + " answered " + got + ", due is " + want);
        }
    }

    /** Each method of a class without arguments is a test: none can be forgotten. */
    static void each(Class<?> all) throws ReflectiveOperationException {
        Method[] methods = all.getDeclaredMethods();
        Arrays.sort(methods, Comparator.comparing(Method::getName));
        for (Method method : methods) {
            if (method.isSynthetic() || method.getParameterCount() != 0 || method.getReturnType() != void.class) {
                continue;
            }
            test = method.getName() + ": ";
            tests++;
            try {
                method.setAccessible(true);
                method.invoke(null);
            } catch (InvocationTargetException e) {
                wrong++;
                System.out.println(test + e.getCause());
            }
        }
        System.out.println(tests + " tests");
        end();
    }

    static void feed(PennyLedge x, String text) {
        byte[] bytes = text.getBytes(StandardCharsets.ISO_8859_1);
        for (int i = 0; i < bytes.length; i += 4) {
            int n = Math.min(4, bytes.length - i);
            int together = 0;
            for (int j = 0; j < n; j++) {
                together = together << 8 | bytes[i + j] & 255;
            }
            x.feed(together, n);
        }
    }

    static int tell(PennyLedge x, String text) {
        feed(x, text);
        return x.text();
    }

    /** A new object that several texts tell of. */
    static PennyLedge shelf(String... texts) {
        PennyLedge x = new PennyLedge();
        for (String text : texts) {
            int answer = tell(x, text);
            if (answer < 0) {
                is("text \"" + text + "\"", answer, 1);
            }
        }
        return x;
    }

    static String times(int n, String item) {
        StringBuilder all = new StringBuilder();
        for (int i = 0; i < n; i++) {
            all.append(i == 0 ? "" : ";").append(item);
        }
        return all.toString();
    }

    /** Lets beats go until BEAT is as told. */
    static void toBeat(PennyLedge x, int beat) {
        for (int left = beat - x.now(0); left > 0; left -= 60) {
            x.beats(Math.min(60, left));
        }
    }

    static void end() {
        System.out.println(asked + " answers asked, " + wrong + " not as due");
        if (wrong != 0) {
            System.exit(1);
        }
    }
}
