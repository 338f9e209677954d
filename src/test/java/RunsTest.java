import java.lang.reflect.Method;
import java.util.ArrayList;
import java.util.Arrays;
import java.util.Comparator;
import java.util.List;
import java.util.Map;
import java.util.Random;
import java.util.TreeMap;

/** All promises: runs of calls drawn by chance (always the same ones), answered by the class and by PlainLedge. */
public final class RunsTest {
    private static final int RUNS = Integer.getInteger("runs", 1500);
    private static final int CALLS = 200;
    /** What is promised of one object. */
    private static final int MOST_CALLS = 512;
    private static final String[] ITEMS = {
        "coin", "big", "watch", "crown", "bent", "token", "lead", "force", "stroke", "sides"};
    private static final String[] COSTLY = {"three", "threeBring", "soonest", "firstFor", "ways", "total", "luck", "wait"};

    private static final Random chance = new Random(20261118);
    private static final Map<String, Map<Long, Integer>> seen = new TreeMap<>();
    private static PennyLedge x;
    private static PlainLedge plain;
    private static final List<String> calls = new ArrayList<>();
    private static int wrong = 0;

    public static void main(String[] args) throws Exception {
        List<Method> face = face();
        for (int run = 0; run < RUNS && wrong == 0; run++) {
            x = new PennyLedge();
            plain = new PlainLedge();
            calls.clear();
            buildShelf(run);
            for (int i = 0; i < CALLS && calls.size() < MOST_CALLS && wrong == 0; i++) {
                if (chance.nextInt(15) == 0) {
                    call("undo");
                }
                Method m = face.get(chance.nextInt(face.size()));
                if (m.getName().equals("text") && chance.nextInt(4) > 0) {
                    feedText(chance.nextInt(3) + 1);
                }
                if (Arrays.asList(COSTLY).contains(m.getName()) && chance.nextInt(3) > 0) {
                    continue;
                }
                call(m.getName(), arguments(m));
            }
        }
        if (args.length > 0) {
            seen.forEach((name, answers) -> System.out.println(name + " " + summary(answers)));
        }
        System.out.println(RUNS + " runs: " + (wrong == 0 ? "all answers are as due" : "an answer is not as due"));
        if (wrong != 0) {
            System.exit(1);
        }
    }

    private static String summary(Map<Long, Integer> answers) {
        return answers.size() > 30 ? answers.size() + " answers" : answers.toString();
    }

    private static List<Method> face() {
        List<Method> all = new ArrayList<>();
        for (Method m : PlainLedge.class.getDeclaredMethods()) {
            if (java.lang.reflect.Modifier.isPublic(m.getModifiers())) {
                all.add(m);
            }
        }
        all.sort(Comparator.comparing(Method::getName));
        return all;
    }

    private static long call(String name, int... args) throws Exception {
        if (calls.size() >= MOST_CALLS) {
            return 0;
        }
        Class<?>[] ints = new Class<?>[args.length];
        Object[] boxed = new Object[args.length];
        for (int i = 0; i < args.length; i++) {
            ints[i] = int.class;
            boxed[i] = args[i];
        }
        long want = ((Number) PlainLedge.class.getMethod(name, ints).invoke(plain, boxed)).longValue();
        long got = ((Number) PennyLedge.class.getMethod(name, ints).invoke(x, boxed)).longValue();
        String shown = name + Arrays.toString(args);
        calls.add(shown + " -> " + want);
        seen.computeIfAbsent(name, k -> new TreeMap<>()).merge(want, 1, Integer::sum);
        if (got != want) {
            wrong++;
            System.out.println(String.join("\n", calls));
            System.out.println(shown + " answered " + got + ", due is " + want);
        }
        return want;
    }

    /** Shelves that are close to falling: few columns, most rows of them taken, a force about their weight. */
    private static void buildShelf(int run) throws Exception {
        int columns = 1 + chance.nextInt(3);
        int first = chance.nextInt(8 - columns);
        int coins = 6 + chance.nextInt(17);
        boolean mixed = chance.nextBoolean();
        for (int i = 0; i < coins; i++) {
            int kind = mixed || chance.nextInt(4) == 0 ? chance.nextInt(7) : 0;
            int coin = (int) call("coin", kind);
            if (coin < 6 && chance.nextInt(3) > 0) {
                call("lay", coin, first, coin);
            } else if (chance.nextInt(5) > 0) {
                call("lay", coin, first + chance.nextInt(columns), chance.nextInt(6));
            }
        }
        call("set", 0, chance.nextInt(chance.nextBoolean() ? 61 : 20));
        if (chance.nextInt(2) == 0) {
            call("set", 1, 1 + chance.nextInt(6));
            call("set", 2, chance.nextInt(4));
        }
        if (run % 40 == 0) {
            int far = 9890 + chance.nextInt(110);
            for (int beat = 0; beat < far; beat += 60) {
                call("beats", Math.min(60, far - beat));
            }
        } else if (chance.nextInt(3) == 0) {
            call("beats", 1 + chance.nextInt(3));
        }
        for (int i = chance.nextInt(8); i > 0; i--) {
            call("coin", chance.nextInt(7));
            call("hold", i, chance.nextInt(coins));
        }
        for (int s = 0; s < 3; s++) {
            call("sheet", s, chance.nextInt(5) == 0 ? 16 : 8, 6);
            for (int i = 0; i < 6; i++) {
                call("write", s, i, chance.nextInt(s == 0 ? 2 : 8));
            }
        }
        call("image");
    }

    private static void feedText(int items) throws Exception {
        StringBuilder text = new StringBuilder();
        for (int i = 0; i < items; i++) {
            text.append(i == 0 ? "" : ";").append(item());
        }
        if (chance.nextInt(3) == 0) {
            String odd = " ;0123456789abcoin~\t\u00e9A";
            char c = odd.charAt(chance.nextInt(odd.length()));
            text.setCharAt(chance.nextInt(text.length()), c);
        }
        for (int i = 0; i < text.length(); i++) {
            call("feed", text.charAt(i), 1);
        }
    }

    private static String item() {
        int which = chance.nextInt(ITEMS.length);
        String gap = chance.nextBoolean() ? " " : "  ";
        if (which >= 7) {
            return ITEMS[which] + gap + chance.nextInt(which == 7 ? 64 : which == 8 ? 8 : 5);
        }
        if (chance.nextInt(3) == 0) {
            return ITEMS[which] + (chance.nextBoolean() ? " " : "");
        }
        return ITEMS[which] + " at" + gap + chance.nextInt(8) + " " + chance.nextInt(7);
    }

    private static int[] arguments(Method m) {
        int[] all = new int[m.getParameterCount()];
        for (int i = 0; i < all.length; i++) {
            all[i] = argument(m.getName(), i);
        }
        return all;
    }

    private static int argument(String name, int i) {
        if (chance.nextInt(150) == 0) {
            int[] far = {Integer.MIN_VALUE, Integer.MAX_VALUE, -2, -1, 7, 61, 100, 1000, 1 << 30};
            return far[chance.nextInt(far.length)];
        }
        if (name.equals("sheet") && i == 1) {
            return new int[] {0, 8, 8, 16, 16, 32, 32, 7}[chance.nextInt(8)];
        }
        if (i == 0 && chance.nextInt(3) > 0) {
            int bits = name.matches("drop|brings|best|wait|lay") ? plain.now(4)
                : name.matches("falls|force|kindFor|soonest|firstFor|luck") ? plain.ahead(0, 2) : 0;
            if (bits > 0) {
                return pick(bits);
            }
        }
        int[] most = most(name);
        int range = most[i] + 1;
        return chance.nextInt(25) == 0 ? chance.nextBoolean() ? -1 : range : chance.nextInt(range);
    }

    /** The greatest ordinary value of each argument; the least is 0. */
    private static int[] most(String name) {
        switch (name) {
            case "coin": return new int[] {6};
            case "of": return new int[] {coins(), 5};
            case "change": return new int[] {coins(), 6};
            case "lay": return new int[] {coins(), 6, 5};
            case "lift": case "height": return new int[] {6, 5};
            case "seen": return new int[] {6, 5, 3};
            case "set": return new int[] {2, chance.nextBoolean() ? 6 : 60};
            case "drop": return new int[] {coins(), 6};
            case "beats": return new int[] {chance.nextInt(3) == 0 ? 60 : 3};
            case "now": return new int[] {6};
            case "run": case "weight": return new int[] {6};
            case "ahead": return new int[] {60, 3};
            case "falls": case "soonest": case "firstFor": return new int[] {coins()};
            case "brings": return new int[] {coins(), 6, 20};
            case "best": case "wait": return new int[] {coins(), 20};
            case "three": case "threeBring": return new int[] {20};
            case "ways": return new int[] {3, chance.nextInt(4) == 0 ? 999 : 6};
            case "total": return new int[] {3};
            case "luck": return new int[] {coins(), 3};
            case "play": return new int[] {chance.nextBoolean() ? 12 : 4};
            case "stroke": return new int[] {60};
            case "force": case "kindFor": return new int[] {coins(), 60};
            case "seed": return new int[] {Integer.MAX_VALUE - 1};
            case "feed": return new int[] {Integer.MAX_VALUE - 1, 4};
            case "hold": return new int[] {9, coins()};
            case "as": return new int[] {9, 6};
            case "sheet": return new int[] {3, 0, chance.nextBoolean() ? 40 : 5};
            case "write": return new int[] {3, 5, chance.nextBoolean() ? 8 : Integer.MAX_VALUE - 1};
            case "copy": return new int[] {3, 5, 3, 5, 5};
            case "load": case "judge": return new int[] {3};
            case "count": return new int[] {7};
            case "status": return new int[] {6};
            default: return new int[0];
        }
    }

    private static int pick(int bits) {
        int left = bits;
        for (int skip = chance.nextInt(Integer.bitCount(bits)); skip > 0; skip--) {
            left &= left - 1;
        }
        return Integer.numberOfTrailingZeros(left);
    }

    private static int coins() {
        return Math.max(0, plain.count(1) - 1);
    }
}
