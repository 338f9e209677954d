import java.nio.charset.StandardCharsets;
import java.util.ArrayList;
import java.util.List;

/**
 * The document once more, as plainly and as slowly as it can be said: coins are objects, stacks are lists,
 * every trial is a deep copy, no beat is left out. RunsTest holds the class against it.
 */
public final class PlainLedge {
    private static final int HAND = 100;
    private static final int WON = 101;
    private static final int HOUSE = 102;

    private static class Coin {
        static Coin of(int kind) {
            Coin[] all = {new Coin(), new Big(), new Watch(), new Crown(), new Bent(), new Token(), new Lead()};
            return all[kind];
        }

        int kind() {
            return 0;
        }

        int worth() {
            return 1;
        }

        int weighs() {
            return 1;
        }

        boolean slides() {
            return true;
        }
    }

    private static class Big extends Coin {
        @Override int kind() {
            return 1;
        }

        @Override int worth() {
            return 2 * new Coin().worth();
        }

        @Override int weighs() {
            return super.weighs() + 1;
        }
    }

    private static final class Crown extends Big {
        @Override int kind() {
            return 3;
        }

        @Override int worth() {
            return super.worth() + 3;
        }

        @Override int weighs() {
            return super.weighs() + 1;
        }
    }

    private static class Watch extends Coin {
        @Override int kind() {
            return 2;
        }

        @Override int worth() {
            return 50;
        }

        @Override int weighs() {
            return super.weighs() + 4;
        }

        @Override boolean slides() {
            return false;
        }
    }

    private static final class Bent extends Watch {
        @Override int kind() {
            return 4;
        }

        @Override int worth() {
            return super.worth() / 2;
        }

        @Override boolean slides() {
            return true;
        }
    }

    private static class Token extends Coin {
        @Override int kind() {
            return 5;
        }

        @Override int worth() {
            return 0;
        }
    }

    private static final class Lead extends Token {
        @Override int kind() {
            return 6;
        }

        @Override int weighs() {
            return super.weighs() + 2;
        }

        @Override boolean slides() {
            return false;
        }
    }

    private static final class World {
        List<Coin> coins = new ArrayList<>();
        List<Integer> where = new ArrayList<>();
        List<List<List<Integer>>> cells = new ArrayList<>();
        int force = 8;
        int stroke = 2;
        int sides = 1;
        int beat = 0;
        int dropped = 0;
        int z = 1;
        Integer[] spots = new Integer[10];

        World() {
            for (int c = 0; c < 7; c++) {
                List<List<Integer>> column = new ArrayList<>();
                for (int r = 0; r < 6; r++) {
                    column.add(new ArrayList<>());
                }
                cells.add(column);
            }
        }

        World twin() {
            World w = new World();
            w.coins.addAll(coins);
            w.where.addAll(where);
            for (int c = 0; c < 7; c++) {
                for (int r = 0; r < 6; r++) {
                    w.cell(c, r).addAll(cell(c, r));
                }
            }
            w.force = force;
            w.stroke = stroke;
            w.sides = sides;
            w.beat = beat;
            w.dropped = dropped;
            w.z = z;
            w.spots = spots.clone();
            return w;
        }

        List<Integer> cell(int c, int r) {
            return cells.get(c).get(r);
        }

        List<Integer> all(int place) {
            List<Integer> found = new ArrayList<>();
            for (int i = 0; i < where.size(); i++) {
                if (where.get(i) == place || place == -1 && where.get(i) < HAND) {
                    found.add(i);
                }
            }
            return found;
        }

        int bits(int place) {
            int bits = 0;
            for (int i : all(place)) {
                bits += 1 << i;
            }
            return bits;
        }

        int worth(int place) {
            int sum = 0;
            for (int i : all(place)) {
                sum += coins.get(i).worth();
            }
            return sum;
        }

        int gain() {
            return worth(WON) - dropped;
        }

        int gone() {
            return all(WON).size() + all(HOUSE).size();
        }

        int run(int c) {
            int rows = 0;
            while (rows < 6 && !cell(c, rows).isEmpty()) {
                rows++;
            }
            return rows;
        }

        int weight(int c) {
            int sum = 0;
            for (int r = 0; r < run(c); r++) {
                for (int i : cell(c, r)) {
                    sum += coins.get(i).weighs();
                }
            }
            return sum;
        }

        void over(int i, int c) {
            where.set(i, c < sides || c > 6 - sides ? HOUSE : WON);
        }

        void onto(int i, int c, int r) {
            if (r == 6) {
                over(i, c);
            } else {
                cell(c, r).add(i);
                where.set(i, 10 * c + r);
            }
        }

        boolean leans(int c, int r) {
            List<Integer> stack = cell(c, r);
            int next = r == 5 ? 0 : cell(c, r + 1).size();
            return stack.size() - next >= 3 && coins.get(stack.get(stack.size() - 1)).slides();
        }

        int beat() {
            int moves = 0;
            if (beat % stroke == 0) {
                for (int c = 0; c < 7; c++) {
                    int rows = run(c);
                    if (rows == 0 || weight(c) > force) {
                        continue;
                    }
                    for (int r = rows - 1; r >= 0; r--) {
                        List<Integer> stack = new ArrayList<>(cell(c, r));
                        cell(c, r).clear();
                        for (int i : stack) {
                            onto(i, c, r + 1);
                        }
                    }
                    moves++;
                }
            }
            for (int r = 5; r >= 0; r--) {
                for (int c = 0; c < 7; c++) {
                    if (leans(c, r)) {
                        onto(cell(c, r).remove(cell(c, r).size() - 1), c, r + 1);
                        moves++;
                    }
                }
            }
            beat++;
            return moves;
        }

        World after(int n) {
            World w = twin();
            for (int i = 0; i < n; i++) {
                w.beat();
            }
            return w;
        }

        void drop(int i, int column) {
            int r = beat % 2 == 0 ? 0 : 1;
            int c = column;
            while (c <= 6 && cell(c, r).size() == 4) {
                c++;
            }
            if (c == 7) {
                where.set(i, HOUSE);
            } else {
                onto(i, c, r);
            }
            dropped++;
            beat();
        }

        int jolt() {
            int many = 0;
            for (int r = 5; r >= 0; r--) {
                for (int c = 0; c < 7; c++) {
                    List<Integer> stack = cell(c, r);
                    if (stack.size() < 2 || !coins.get(stack.get(stack.size() - 1)).slides()) {
                        continue;
                    }
                    if (r < 5 && cell(c, r + 1).size() == 4) {
                        continue;
                    }
                    onto(stack.remove(stack.size() - 1), c, r + 1);
                    many++;
                }
            }
            return many;
        }

        int draw() {
            z = (int) ((long) z * 1103515245L + 12345L);
            return (int) ((z & 0xffffffffL) / 256);
        }

        /** All worlds behind k drops, by the numbers of their columns. */
        List<World> ways(int k) {
            List<World> now = new ArrayList<>();
            now.add(this);
            for (int d = 0; d < k; d++) {
                List<World> next = new ArrayList<>();
                for (World w : now) {
                    for (int c = 0; c < 7; c++) {
                        World v = w.twin();
                        v.drop(v.all(HAND).get(0), c);
                        next.add(v);
                    }
                }
                now = next;
            }
            return now;
        }
    }

    private World w = new World();
    private World kept = null;
    private final List<Integer> tape = new ArrayList<>();
    private final int[][] sheets = new int[4][];
    private final int[] bits = new int[4];
    private final List<Integer> told = new ArrayList<>();

    private int tell(int finding) {
        told.add(finding);
        return -1000001 - finding;
    }

    private int beyond() {
        return tell(0);
    }

    private int full() {
        return tell(1);
    }

    private int none() {
        return tell(3);
    }

    private int state() {
        return tell(4);
    }

    private int missing() {
        return tell(5);
    }

    private boolean noCoin(int i) {
        return i < 0 || i >= w.coins.size();
    }

    private static boolean noKind(int k) {
        return k < 0 || k > 6;
    }

    private static boolean noColumn(int c) {
        return c < 0 || c > 6;
    }

    private static boolean noCell(int c, int r) {
        return noColumn(c) || r < 0 || r > 5;
    }

    private static boolean out(int v, int a, int b) {
        return v < a || v > b;
    }

    private int newCoin(World in, int kind) {
        in.coins.add(Coin.of(kind));
        in.where.add(HAND);
        return in.coins.size() - 1;
    }

    public int coin(int kind) {
        if (noKind(kind)) {
            return beyond();
        }
        return w.coins.size() == 24 ? full() : newCoin(w, kind);
    }

    public int of(int i, int what) {
        if (noCoin(i) || out(what, 0, 5)) {
            return beyond();
        }
        Coin c = w.coins.get(i);
        int p = w.where.get(i);
        int place = p < HAND ? w.cell(p / 10, p % 10).indexOf(i) : 0;
        return new int[] {c.kind(), p, place, c.worth(), c.weighs(), c.slides() ? 1 : 0}[what];
    }

    public int change(int i, int v) {
        if (noCoin(i) || noKind(v)) {
            return beyond();
        }
        return w.coins.set(i, Coin.of(v)).kind();
    }

    public int lay(int i, int c, int r) {
        if (noCoin(i) || noCell(c, r)) {
            return beyond();
        }
        if (w.where.get(i) != HAND) {
            return state();
        }
        if (w.cell(c, r).size() == 4) {
            return full();
        }
        w.onto(i, c, r);
        return w.cell(c, r).size();
    }

    public int lift(int c, int r) {
        if (noCell(c, r)) {
            return beyond();
        }
        List<Integer> stack = w.cell(c, r);
        if (stack.isEmpty()) {
            return none();
        }
        int i = stack.remove(stack.size() - 1);
        w.where.set(i, HAND);
        return i;
    }

    public int height(int c, int r) {
        return noCell(c, r) ? beyond() : w.cell(c, r).size();
    }

    public int seen(int c, int r, int k) {
        if (noCell(c, r) || out(k, 0, 3)) {
            return beyond();
        }
        return k < w.cell(c, r).size() ? w.cell(c, r).get(k) : none();
    }

    public int set(int what, int v) {
        int old;
        if (what == 0 && !out(v, 0, 60)) {
            old = w.force;
            w.force = v;
        } else if (what == 1 && !out(v, 1, 6)) {
            old = w.stroke;
            w.stroke = v;
        } else if (what == 2 && !out(v, 0, 3)) {
            old = w.sides;
            w.sides = v;
        } else {
            return beyond();
        }
        return old;
    }

    public int drop(int i, int c) {
        if (noCoin(i) || noColumn(c)) {
            return beyond();
        }
        if (w.where.get(i) != HAND || w.beat == 9999) {
            return state();
        }
        int before = w.gain();
        w.drop(i, c);
        return w.gain() - before;
    }

    public int beats(int n) {
        if (out(n, 1, 60)) {
            return beyond();
        }
        if (w.beat + n > 9999) {
            return state();
        }
        int before = w.gone();
        w = w.after(n);
        return w.gone() - before;
    }

    public int now(int what) {
        if (out(what, 0, 6)) {
            return beyond();
        }
        return new int[] {w.beat, w.gain(), w.bits(WON), w.bits(HOUSE), w.bits(HAND), w.dropped, w.worth(HOUSE)}[what];
    }

    public int run(int c) {
        return noColumn(c) ? beyond() : w.run(c);
    }

    public int weight(int c) {
        return noColumn(c) ? beyond() : w.weight(c);
    }

    public int moved() {
        int set = 0;
        for (int c = 0; c < 7; c++) {
            if (w.run(c) > 0 && w.weight(c) <= w.force) {
                set += 1 << c;
            }
        }
        return set;
    }

    public int leaning() {
        int many = 0;
        for (int c = 0; c < 7; c++) {
            for (int r = 0; r < 6; r++) {
                many += w.leans(c, r) ? 1 : 0;
            }
        }
        return many;
    }

    public int ahead(int n, int what) {
        if (out(n, 0, 60) || out(what, 0, 3)) {
            return beyond();
        }
        if (w.beat + n > 9999) {
            return state();
        }
        World v = w.after(n);
        int high = 0;
        for (int c = 0; c < 7; c++) {
            for (int r = 0; r < 6; r++) {
                high = Math.max(high, v.cell(c, r).size());
            }
        }
        return new int[] {v.worth(WON) - w.worth(WON), v.gone() - w.gone(), v.bits(-1), high}[what];
    }

    public int falls(int i) {
        if (noCoin(i)) {
            return beyond();
        }
        if (w.where.get(i) >= HAND || w.beat > 9939) {
            return state();
        }
        for (int n = 0; n <= 60; n++) {
            if (w.after(n).where.get(i) >= HAND) {
                return n;
            }
        }
        return none();
    }

    public int rest() {
        if (w.beat > 9930) {
            return state();
        }
        for (int n = 0; n <= 60; n++) {
            World v = w.after(n);
            int moves = 0;
            for (int i = 0; i < w.stroke; i++) {
                moves += v.beat();
            }
            if (moves == 0) {
                return n;
            }
        }
        return none();
    }

    private static int gainOf(World from, int i, int c, int n) {
        World v = from.twin();
        v.drop(i, c);
        return v.after(n).gain();
    }

    private boolean notNow(int i) {
        return w.where.get(i) != HAND || w.beat > 9900;
    }

    public int brings(int i, int c, int n) {
        if (noCoin(i) || noColumn(c) || out(n, 0, 20)) {
            return beyond();
        }
        return notNow(i) ? state() : gainOf(w, i, c, n) - w.gain();
    }

    public int best(int i, int n) {
        if (noCoin(i) || out(n, 0, 20)) {
            return beyond();
        }
        if (notNow(i)) {
            return state();
        }
        int[] gains = new int[7];
        for (int c = 0; c < 7; c++) {
            gains[c] = gainOf(w, i, c, n);
        }
        return firstOfMost(gains);
    }

    private static int firstOfMost(int[] gains) {
        int best = gains.length - 1;
        for (int j = gains.length - 1; j >= 0; j--) {
            best = gains[j] >= gains[best] ? j : best;
        }
        return best;
    }

    public int wait(int i, int n) {
        if (noCoin(i) || out(n, 0, 20)) {
            return beyond();
        }
        if (notNow(i)) {
            return state();
        }
        int[] gains = new int[84];
        for (int j = 0; j < 84; j++) {
            gains[j] = gainOf(w.after(j / 7), i, j % 7, n);
        }
        int best = firstOfMost(gains);
        return 10 * (best / 7) + best % 7;
    }

    private boolean fewer(int k) {
        return w.all(HAND).size() < k || w.beat > 9900;
    }

    private int[] threeGains(int n) {
        List<World> all = w.ways(3);
        int[] gains = new int[all.size()];
        for (int j = 0; j < gains.length; j++) {
            gains[j] = all.get(j).after(n).gain();
        }
        return gains;
    }

    public int three(int n) {
        if (out(n, 0, 20)) {
            return beyond();
        }
        if (fewer(3)) {
            return state();
        }
        return Integer.parseInt(Integer.toString(firstOfMost(threeGains(n)), 7));
    }

    public int threeBring(int n) {
        if (out(n, 0, 20)) {
            return beyond();
        }
        if (fewer(3)) {
            return state();
        }
        int[] gains = threeGains(n);
        return gains[firstOfMost(gains)] - w.gain();
    }

    private int[] soonestFirst(int i) {
        for (int k = 0; k <= Math.min(3, w.all(HAND).size()); k++) {
            List<World> all = w.ways(k);
            for (int j = 0; j < all.size(); j++) {
                if (all.get(j).where.get(i) == WON) {
                    return new int[] {k, k == 0 ? -1 : j / (all.size() / 7)};
                }
            }
        }
        return null;
    }

    public int soonest(int i) {
        if (noCoin(i)) {
            return beyond();
        }
        if (w.beat > 9900) {
            return state();
        }
        int[] found = soonestFirst(i);
        return found == null ? none() : found[0];
    }

    public int firstFor(int i) {
        if (noCoin(i)) {
            return beyond();
        }
        if (w.beat > 9900) {
            return state();
        }
        int[] found = soonestFirst(i);
        return found == null || found[0] == 0 ? none() : found[1];
    }

    public long ways(int k, int v) {
        if (out(k, 0, 3) || out(v, -99, 999)) {
            return beyond();
        }
        if (fewer(k)) {
            return state();
        }
        return w.ways(k).stream().filter(o -> o.gain() >= v).count();
    }

    public long total(int k) {
        if (out(k, 0, 3)) {
            return beyond();
        }
        if (fewer(k)) {
            return state();
        }
        return w.ways(k).stream().mapToLong(o -> o.gain() - w.gain()).sum();
    }

    public long luck(int i, int k) {
        if (noCoin(i) || out(k, 0, 3)) {
            return beyond();
        }
        if (fewer(k)) {
            return state();
        }
        return w.ways(k).stream().filter(o -> o.where.get(i) == WON).count();
    }

    public int play(int n) {
        if (out(n, 1, 12)) {
            return beyond();
        }
        if (fewer(n)) {
            return state();
        }
        int before = w.gain();
        for (int j = 0; j < n; j++) {
            int column = w.draw() % 7;
            w.drop(w.all(HAND).get(0), column);
        }
        return w.gain() - before;
    }

    public int jolt() {
        return w.jolt();
    }

    public int jolted() {
        World v = w.twin();
        v.jolt();
        return v.worth(WON) - w.worth(WON);
    }

    public int stroke(int n) {
        if (out(n, 1, 60)) {
            return beyond();
        }
        if (w.beat + n > 9999) {
            return state();
        }
        int[] losses = new int[6];
        for (int s = 1; s <= 6; s++) {
            World v = w.twin();
            v.stroke = s;
            losses[s - 1] = w.worth(WON) - v.after(n).worth(WON);
        }
        return firstOfMost(losses) + 1;
    }

    public int force(int i, int n) {
        if (noCoin(i) || out(n, 1, 60)) {
            return beyond();
        }
        if (w.where.get(i) >= HAND || w.beat + n > 9999) {
            return state();
        }
        for (int f = 0; f <= 60; f++) {
            World v = w.twin();
            v.force = f;
            if (v.after(n).where.get(i) >= HAND) {
                return f;
            }
        }
        return none();
    }

    public int kindFor(int i, int n) {
        if (noCoin(i) || out(n, 1, 60)) {
            return beyond();
        }
        if (w.where.get(i) >= HAND || w.beat + n > 9999) {
            return state();
        }
        int[] worths = new int[7];
        for (int k = 0; k < 7; k++) {
            World v = w.twin();
            v.coins.set(i, Coin.of(k));
            v = v.after(n);
            for (int j : v.all(WON)) {
                if (j != i && !w.all(WON).contains(j)) {
                    worths[k] += v.coins.get(j).worth();
                }
            }
        }
        return firstOfMost(worths);
    }

    public int seed(int v) {
        int old = w.z;
        w.z = v;
        return old;
    }

    public int feed(int number, int n) {
        if (out(n, 1, 4)) {
            return beyond();
        }
        if (tape.size() + n > 120) {
            return full();
        }
        byte[] four = java.nio.ByteBuffer.allocate(4).putInt(number).array();
        for (int j = 4 - n; j < 4; j++) {
            tape.add(four[j] & 255);
        }
        return tape.size();
    }

    public int wipe() {
        int had = tape.size();
        tape.clear();
        return had;
    }

    private static final class Fault extends RuntimeException {
        private static final long serialVersionUID = 1;
        final int place;

        Fault(int place) {
            this.place = place;
        }
    }

    public int text() {
        byte[] all = new byte[tape.size()];
        for (int j = 0; j < all.length; j++) {
            all[j] = (byte) (int) tape.get(j);
        }
        tape.clear();
        World v = w.twin();
        try {
            int items = new Words(new String(all, StandardCharsets.ISO_8859_1)).read(v);
            w = v;
            return items;
        } catch (Fault f) {
            return -1 - f.place;
        }
    }

    /** The tokens of a text by their places, and then item by item. */
    private final class Words {
        final List<String> tokens = new ArrayList<>();
        final List<Integer> places = new ArrayList<>();
        int next = 0;

        Words(String all) {
            java.util.regex.Matcher m = java.util.regex.Pattern.compile("[a-z]+|[0-9]+|[^ ]").matcher(all);
            while (m.find()) {
                tokens.add(m.group());
                places.add(m.start());
            }
            tokens.add("");
            places.add(all.length());
        }

        String peek() {
            return tokens.get(next);
        }

        String take(boolean fits) {
            if (!fits) {
                throw new Fault(places.get(next));
            }
            return tokens.get(next++);
        }

        boolean isNumber(int least, int most) {
            if (!peek().matches("[0-9]+")) {
                return false;
            }
            java.math.BigInteger v = new java.math.BigInteger(peek());
            return v.compareTo(java.math.BigInteger.valueOf(least)) >= 0
                && v.compareTo(java.math.BigInteger.valueOf(most)) <= 0;
        }

        int number(int least, int most) {
            return Integer.parseInt(take(isNumber(least, most)));
        }

        int read(World v) {
            int items = 0;
            while (true) {
                item(v);
                items++;
                if (peek().isEmpty()) {
                    return items;
                }
                take(peek().equals(";"));
            }
        }

        void item(World v) {
            int kind = List.of("coin", "big", "watch", "crown", "bent", "token", "lead").indexOf(peek());
            if (kind < 0) {
                String word = take(List.of("force", "stroke", "sides").contains(peek()));
                if (word.equals("force")) {
                    v.force = number(0, 60);
                } else if (word.equals("stroke")) {
                    v.stroke = number(1, 6);
                } else {
                    v.sides = number(0, 3);
                }
                return;
            }
            take(v.coins.size() < 24);
            int coin = newCoin(v, kind);
            if (peek().equals("at")) {
                take(true);
                int c = number(0, 6);
                int r = isNumber(0, 5) ? Integer.parseInt(peek()) : -1;
                take(r >= 0 && v.cell(c, r).size() < 4);
                v.onto(coin, c, r);
            }
        }
    }

    public int hold(int spot, int coin) {
        if (out(spot, 0, 9) || coin != -1 && noCoin(coin)) {
            return beyond();
        }
        w.spots[spot] = coin == -1 ? null : coin;
        return 1;
    }

    public int as(int spot, int kind) {
        if (out(spot, 0, 9) || noKind(kind)) {
            return beyond();
        }
        Integer coin = w.spots[spot];
        if (coin == null) {
            return missing();
        }
        return Coin.of(kind).getClass().isInstance(w.coins.get(coin)) ? coin : tell(2);
    }

    public int sheet(int s, int b, int n) {
        if (out(s, 0, 3) || b != 0 && b != 8 && b != 16 && b != 32) {
            return beyond();
        }
        if (n < 0) {
            return tell(6);
        }
        if (n > 40) {
            return beyond();
        }
        bits[s] = b;
        sheets[s] = b == 0 ? null : new int[n];
        return b == 0 ? 0 : n;
    }

    public int write(int s, int i, int v) {
        if (out(s, 0, 3)) {
            return beyond();
        }
        if (sheets[s] == null) {
            return missing();
        }
        if (out(i, 0, sheets[s].length - 1)) {
            return beyond();
        }
        sheets[s][i] = v << 32 - bits[s] >> 32 - bits[s];
        return 1;
    }

    public int copy(int s, int from, int t, int to, int n) {
        if (out(s, 0, 3) || out(t, 0, 3)) {
            return beyond();
        }
        if (sheets[s] == null || sheets[t] == null) {
            return missing();
        }
        if (bits[s] != bits[t]) {
            return tell(2);
        }
        if (from < 0 || to < 0 || n < 0 || (long) from + n > sheets[s].length || (long) to + n > sheets[t].length) {
            return beyond();
        }
        int[] old = sheets[s].clone();
        for (int j = 0; j < n; j++) {
            sheets[t][to + j] = old[from + j];
        }
        return n;
    }

    public int load(int s) {
        if (out(s, 0, 3)) {
            return beyond();
        }
        if (sheets[s] == null) {
            return missing();
        }
        int came = 0;
        for (int c : sheets[s]) {
            if (noColumn(c) || w.all(HAND).isEmpty() || w.beat == 9999) {
                return came;
            }
            w.drop(w.all(HAND).get(0), c);
            came++;
        }
        return came;
    }

    public int judge(int s) {
        if (out(s, 0, 3)) {
            return beyond();
        }
        if (sheets[s] == null) {
            return missing();
        }
        if (w.beat + sheets[s].length > 9999) {
            return state();
        }
        for (int j = 0; j < sheets[s].length; j++) {
            if (w.after(j + 1).gone() - w.after(j).gone() != sheets[s][j]) {
                return 1 + j;
            }
        }
        return 0;
    }

    public int image() {
        kept = w.twin();
        return 1;
    }

    public int undo() {
        if (kept == null) {
            return none();
        }
        w = kept.twin();
        return w.beat;
    }

    public int tear() {
        int was = kept == null ? 0 : 1;
        kept = null;
        return was;
    }

    public int count(int what) {
        if (out(what, 0, 7)) {
            return beyond();
        }
        int stacks = 0;
        for (List<List<Integer>> column : w.cells) {
            for (List<Integer> stack : column) {
                stacks += stack.isEmpty() ? 0 : 1;
            }
        }
        int held = 0;
        for (Integer spot : w.spots) {
            held += spot == null ? 0 : 1;
        }
        return new int[] {w.beat, w.coins.size(), w.all(-1).size(), w.worth(-1), stacks, tape.size(), w.z, held}[what];
    }

    public int status(int which) {
        if (out(which, -1, 6)) {
            return beyond();
        }
        return which == -1 ? told.size() : (int) told.stream().filter(f -> f == which).count();
    }
}
