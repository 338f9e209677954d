/** Pennies on a ledge: a coin pusher at a fair, as ../shared/DOC.md tells it. */
public final class PennyLedge {
    private static final int LOW = -1000001;
    private static final int BEYOND = 0;
    private static final int FULL = 1;
    private static final int KIND = 2;
    private static final int NONE = 3;
    private static final int STATE = 4;
    private static final int MISSING = 5;
    private static final int SIZE = 6;
    private static final int FINDINGS = 7;

    private static final int COLUMNS = 7;
    private static final int ROWS = 6;
    private static final int EDGE_ROW = 5;
    private static final int CELLS = COLUMNS * ROWS;
    private static final int MOST_HIGH = 4;
    private static final int MOST_COINS = 24;
    private static final int MOST_BEAT = 9999;
    /** Above these BEATs searches, rest and falls are refused, so that none of their trials passes MOST_BEAT. */
    private static final int LAST_SEARCHED_BEAT = 9900;
    private static final int LAST_RESTING_BEAT = 9930;
    private static final int LAST_FALLING_BEAT = 9939;

    private static final int HAND = 100;
    private static final int WON = 101;
    private static final int HOUSE = 102;

    private static final int KINDS = 7;
    /** The kind that each one is under; -1 for COIN. */
    private static final int[] OVER = {-1, 0, 0, 1, 2, 0, 5};
    private static final int[] WORTH = {1, 2, 50, 5, 25, 0, 0};
    private static final int[] WEIGHS = {1, 2, 5, 3, 5, 1, 3};
    private static final int[] SLIDES = {1, 1, 0, 1, 1, 1, 0};

    private static final int FORCE = 0;
    private static final int STROKE = 1;
    private static final int SIDES = 2;
    private static final int SETTINGS = 3;
    private static final int[] LEAST_SETTING = {0, 1, 0};
    private static final int[] MOST_SETTING = {60, 6, 3};

    private static final int SPOTS = 10;
    private static final int SHEETS = 4;
    private static final int MOST_NUMBERS = 40;
    private static final int MOST_BYTES = 120;

    private static final int MOST_DROPS = 3;
    /** In how many ways 0, 1, 2, 3 coins can be dropped. */
    private static final int[] WAYS = {1, 7, 49, 343};

    private static final int END = 0;
    private static final int WORD = 1;
    private static final int NUMBER = 2;
    private static final int SIGN = 3;
    private static final int OTHER = 4;
    /** What any number above 9999 counts as: too large for every place, and never too large for an int. */
    private static final int TOO_LARGE = 10000;

    private final Shelf shelf = new Shelf();
    private final Shelf kept = new Shelf();
    private boolean isKept = false;
    private final Shelf trial = new Shelf();
    /** Level j is the shelf behind the first j drops of a way; level 0 is the shelf itself. */
    private final Shelf[] levels = new Shelf[MOST_DROPS + 1];
    private final Tape tape = new Tape();
    private final Sheet[] sheets = new Sheet[SHEETS];
    private final int[] findings = new int[FINDINGS];

    public PennyLedge() {
        levels[0] = shelf;
        for (int j = 1; j <= MOST_DROPS; j++) {
            levels[j] = new Shelf();
        }
        for (int s = 0; s < SHEETS; s++) {
            sheets[s] = new Sheet();
        }
    }

    // ---- coins, cells

    public int coin(int kind) {
        if (!isKind(kind)) {
            return found(BEYOND);
        }
        if (shelf.coins >= MOST_COINS) {
            return found(FULL);
        }
        return shelf.mint(kind);
    }

    public int of(int coin, int what) {
        if (!isCoin(coin) || !within(what, 0, 5)) {
            return found(BEYOND);
        }
        int kind = shelf.kinds[coin];
        switch (what) {
            case 0:
                return kind;
            case 1:
                return shelf.toldPlace(coin);
            case 2:
                return shelf.depthOf(coin);
            case 3:
                return WORTH[kind];
            case 4:
                return WEIGHS[kind];
            default:
                return SLIDES[kind];
        }
    }

    public int change(int coin, int v) {
        if (!isCoin(coin) || !isKind(v)) {
            return found(BEYOND);
        }
        int old = shelf.kinds[coin];
        shelf.kinds[coin] = v;
        return old;
    }

    public int lay(int coin, int column, int row) {
        if (!isCoin(coin) || !isCell(column, row)) {
            return found(BEYOND);
        }
        if (shelf.places[coin] != HAND) {
            return found(STATE);
        }
        int cell = cellOf(column, row);
        if (!shelf.hasRoom(cell)) {
            return found(FULL);
        }
        shelf.put(coin, cell);
        return shelf.heights[cell];
    }

    public int lift(int column, int row) {
        if (!isCell(column, row)) {
            return found(BEYOND);
        }
        int cell = cellOf(column, row);
        return shelf.heights[cell] > 0 ? shelf.pull(cell) : found(NONE);
    }

    public int height(int column, int row) {
        return isCell(column, row) ? shelf.heights[cellOf(column, row)] : found(BEYOND);
    }

    public int seen(int column, int row, int k) {
        if (!isCell(column, row) || !within(k, 0, MOST_HIGH - 1)) {
            return found(BEYOND);
        }
        int cell = cellOf(column, row);
        return k < shelf.heights[cell] ? shelf.stacks[cell * MOST_HIGH + k] : found(NONE);
    }

    public int set(int what, int v) {
        if (!within(what, 0, SETTINGS - 1) || !isSetting(what, v)) {
            return found(BEYOND);
        }
        int old = shelf.settings[what];
        shelf.settings[what] = v;
        return old;
    }

    // ---- beats

    public int drop(int coin, int column) {
        if (!isCoin(coin) || !isColumn(column)) {
            return found(BEYOND);
        }
        if (shelf.places[coin] != HAND || passesEnd(1)) {
            return found(STATE);
        }
        int before = shelf.gain();
        shelf.release(coin, column);
        return shelf.gain() - before;
    }

    public int beats(int n) {
        if (!within(n, 1, 60)) {
            return found(BEYOND);
        }
        if (passesEnd(n)) {
            return found(STATE);
        }
        int before = shelf.goneOver();
        shelf.advance(n);
        return shelf.goneOver() - before;
    }

    public int now(int what) {
        switch (what) {
            case 0:
                return shelf.beat;
            case 1:
                return shelf.gain();
            case 2:
                return shelf.bitsAt(WON);
            case 3:
                return shelf.bitsAt(HOUSE);
            case 4:
                return shelf.bitsAt(HAND);
            case 5:
                return shelf.dropped;
            case 6:
                return shelf.worthAt(HOUSE);
            default:
                return found(BEYOND);
        }
    }

    public int run(int column) {
        return isColumn(column) ? shelf.runRows(column) : found(BEYOND);
    }

    public int weight(int column) {
        return isColumn(column) ? shelf.runWeight(column) : found(BEYOND);
    }

    public int moved() {
        int bits = 0;
        for (int column = 0; column < COLUMNS; column++) {
            if (shelf.pushMoves(column)) {
                bits |= 1 << column;
            }
        }
        return bits;
    }

    public int leaning() {
        int many = 0;
        for (int cell = 0; cell < CELLS; cell++) {
            if (shelf.leans(cell)) {
                many++;
            }
        }
        return many;
    }

    public int ahead(int n, int what) {
        if (!within(n, 0, 60) || !within(what, 0, 3)) {
            return found(BEYOND);
        }
        if (passesEnd(n)) {
            return found(STATE);
        }
        trial.become(shelf);
        trial.advance(n);
        switch (what) {
            case 0:
                return trial.worthAt(WON) - shelf.worthAt(WON);
            case 1:
                return trial.goneOver() - shelf.goneOver();
            case 2:
                return trial.bitsOnShelf();
            default:
                return trial.highest();
        }
    }

    public int falls(int coin) {
        if (!isCoin(coin)) {
            return found(BEYOND);
        }
        if (!shelf.isOnShelf(coin) || shelf.beat > LAST_FALLING_BEAT) {
            return found(STATE);
        }
        trial.become(shelf);
        for (int n = 1; n <= 60; n++) {
            trial.advance(1);
            if (!trial.isOnShelf(coin)) {
                return n;
            }
        }
        return found(NONE);
    }

    public int rest() {
        if (shelf.beat > LAST_RESTING_BEAT) {
            return found(STATE);
        }
        int stroke = shelf.settings[STROKE];
        trial.become(shelf);
        int quiet = 0;
        for (int n = 1; n <= 60 + stroke; n++) {
            quiet = trial.passBeat() ? 0 : quiet + 1;
            if (quiet >= stroke) {
                return n - stroke;
            }
        }
        return found(NONE);
    }

    // ---- drops

    public int brings(int coin, int column, int n) {
        if (!isCoin(coin) || !isColumn(column) || !within(n, 0, 20)) {
            return found(BEYOND);
        }
        if (!isSearched(coin)) {
            return found(STATE);
        }
        return gainBy(shelf, coin, column, n) - shelf.gain();
    }

    public int best(int coin, int n) {
        if (!isCoin(coin) || !within(n, 0, 20)) {
            return found(BEYOND);
        }
        if (!isSearched(coin)) {
            return found(STATE);
        }
        int best = 0;
        int most = gainBy(shelf, coin, 0, n);
        for (int column = 1; column < COLUMNS; column++) {
            int gain = gainBy(shelf, coin, column, n);
            if (gain > most) {
                most = gain;
                best = column;
            }
        }
        return best;
    }

    public int wait(int coin, int n) {
        if (!isCoin(coin) || !within(n, 0, 20)) {
            return found(BEYOND);
        }
        if (!isSearched(coin)) {
            return found(STATE);
        }
        Shelf waited = levels[1];
        waited.become(shelf);
        int best = 0;
        int most = gainBy(shelf, coin, 0, n);
        for (int beats = 0; beats <= 11; beats++) {
            for (int column = 0; column < COLUMNS; column++) {
                int gain = gainBy(waited, coin, column, n);
                if (gain > most) {
                    most = gain;
                    best = 10 * beats + column;
                }
            }
            waited.advance(1);
        }
        return best;
    }

    public int three(int n) {
        if (!within(n, 0, 20)) {
            return found(BEYOND);
        }
        if (!canDrop(MOST_DROPS)) {
            return found(STATE);
        }
        int best = 0;
        int most = gainOfThree(0, n);
        for (int way = 1; way < WAYS[MOST_DROPS]; way++) {
            int gain = gainOfThree(way, n);
            if (gain > most) {
                most = gain;
                best = way;
            }
        }
        int first = columnOf(best, MOST_DROPS, 1);
        int second = columnOf(best, MOST_DROPS, 2);
        int third = columnOf(best, MOST_DROPS, 3);
        return 100 * first + 10 * second + third;
    }

    public int threeBring(int n) {
        if (!within(n, 0, 20)) {
            return found(BEYOND);
        }
        if (!canDrop(MOST_DROPS)) {
            return found(STATE);
        }
        int most = gainOfThree(0, n);
        for (int way = 1; way < WAYS[MOST_DROPS]; way++) {
            most = Math.max(most, gainOfThree(way, n));
        }
        return most - shelf.gain();
    }

    public int soonest(int coin) {
        if (!isCoin(coin)) {
            return found(BEYOND);
        }
        if (shelf.beat > LAST_SEARCHED_BEAT) {
            return found(STATE);
        }
        int code = soonestWay(coin);
        return code < 0 ? found(NONE) : code / WAYS[MOST_DROPS];
    }

    public int firstFor(int coin) {
        if (!isCoin(coin)) {
            return found(BEYOND);
        }
        if (shelf.beat > LAST_SEARCHED_BEAT) {
            return found(STATE);
        }
        int code = soonestWay(coin);
        if (code < WAYS[MOST_DROPS]) {
            return found(NONE);
        }
        int drops = code / WAYS[MOST_DROPS];
        int way = code % WAYS[MOST_DROPS];
        return columnOf(way, drops, 1);
    }

    // ---- chance

    public long ways(int k, int v) {
        if (!within(k, 0, MOST_DROPS) || !within(v, -99, 999)) {
            return found(BEYOND);
        }
        if (!canDrop(k)) {
            return found(STATE);
        }
        int many = 0;
        for (int way = 0; way < WAYS[k]; way++) {
            if (walk(way, k).gain() >= v) {
                many++;
            }
        }
        return many;
    }

    public long total(int k) {
        if (!within(k, 0, MOST_DROPS)) {
            return found(BEYOND);
        }
        if (!canDrop(k)) {
            return found(STATE);
        }
        int before = shelf.gain();
        long sum = 0;
        for (int way = 0; way < WAYS[k]; way++) {
            sum += walk(way, k).gain() - before;
        }
        return sum;
    }

    public long luck(int coin, int k) {
        if (!isCoin(coin) || !within(k, 0, MOST_DROPS)) {
            return found(BEYOND);
        }
        if (!canDrop(k)) {
            return found(STATE);
        }
        int many = 0;
        for (int way = 0; way < WAYS[k]; way++) {
            if (walk(way, k).places[coin] == WON) {
                many++;
            }
        }
        return many;
    }

    public int play(int n) {
        if (!within(n, 1, 12)) {
            return found(BEYOND);
        }
        if (!canDrop(n)) {
            return found(STATE);
        }
        int before = shelf.gain();
        for (int i = 0; i < n; i++) {
            shelf.release(shelf.leastInHand(), shelf.draw() % COLUMNS);
        }
        return shelf.gain() - before;
    }

    // ---- jolts, settings

    public int jolt() {
        return shelf.shake();
    }

    public int jolted() {
        trial.become(shelf);
        trial.shake();
        return trial.worthAt(WON) - shelf.worthAt(WON);
    }

    public int stroke(int n) {
        if (!within(n, 1, 60)) {
            return found(BEYOND);
        }
        if (passesEnd(n)) {
            return found(STATE);
        }
        int best = 0;
        int least = 0;
        for (int stroke = LEAST_SETTING[STROKE]; stroke <= MOST_SETTING[STROKE]; stroke++) {
            trial.become(shelf);
            trial.settings[STROKE] = stroke;
            trial.advance(n);
            int worth = trial.worthAt(WON);
            if (best == 0 || worth < least) {
                least = worth;
                best = stroke;
            }
        }
        return best;
    }

    public int force(int coin, int n) {
        if (!isCoin(coin) || !within(n, 1, 60)) {
            return found(BEYOND);
        }
        if (!shelf.isOnShelf(coin) || passesEnd(n)) {
            return found(STATE);
        }
        for (int force = LEAST_SETTING[FORCE]; force <= MOST_SETTING[FORCE]; force++) {
            trial.become(shelf);
            trial.settings[FORCE] = force;
            trial.advance(n);
            if (!trial.isOnShelf(coin)) {
                return force;
            }
        }
        return found(NONE);
    }

    public int kindFor(int coin, int n) {
        if (!isCoin(coin) || !within(n, 1, 60)) {
            return found(BEYOND);
        }
        if (!shelf.isOnShelf(coin) || passesEnd(n)) {
            return found(STATE);
        }
        int best = -1;
        int most = 0;
        for (int kind = 0; kind < KINDS; kind++) {
            trial.become(shelf);
            trial.kinds[coin] = kind;
            trial.advance(n);
            int own = trial.places[coin] == WON ? WORTH[kind] : 0;
            int others = trial.worthAt(WON) - own;
            if (best < 0 || others > most) {
                most = others;
                best = kind;
            }
        }
        return best;
    }

    public int seed(int v) {
        int old = shelf.z;
        shelf.z = v;
        return old;
    }

    // ---- texts

    public int feed(int bytes, int n) {
        if (!within(n, 1, 4)) {
            return found(BEYOND);
        }
        if (tape.length + n > MOST_BYTES) {
            return found(FULL);
        }
        for (int i = n - 1; i >= 0; i--) {
            tape.append((bytes >>> (8 * i)) & 255);
        }
        return tape.length;
    }

    public int wipe() {
        int had = tape.length;
        tape.length = 0;
        return had;
    }

    public int text() {
        trial.become(shelf);
        int answer = readText(trial);
        if (answer >= 0) {
            shelf.become(trial);
        }
        tape.length = 0;
        return answer;
    }

    // ---- spots, sheets

    public int hold(int spot, int coin) {
        if (!within(spot, 0, SPOTS - 1) || (coin != -1 && !isCoin(coin))) {
            return found(BEYOND);
        }
        shelf.spots[spot] = coin;
        return 1;
    }

    public int as(int spot, int kind) {
        if (!within(spot, 0, SPOTS - 1) || !isKind(kind)) {
            return found(BEYOND);
        }
        int coin = shelf.spots[spot];
        if (!isCoin(coin)) {
            return found(MISSING);
        }
        return isUnder(shelf.kinds[coin], kind) ? coin : found(KIND);
    }

    public int sheet(int s, int bits, int n) {
        if (!isSheet(s) || !isWidth(bits)) {
            return found(BEYOND);
        }
        if (n < 0) {
            return found(SIZE);
        }
        if (n > MOST_NUMBERS) {
            return found(BEYOND);
        }
        sheets[s].renew(bits, bits == 0 ? 0 : n);
        return sheets[s].size;
    }

    public int write(int s, int i, int v) {
        if (!isSheet(s)) {
            return found(BEYOND);
        }
        if (sheets[s].bits == 0) {
            return found(MISSING);
        }
        if (!within(i, 0, sheets[s].size - 1)) {
            return found(BEYOND);
        }
        sheets[s].put(i, v);
        return 1;
    }

    public int copy(int s, int from, int t, int to, int n) {
        if (!isSheet(s) || !isSheet(t)) {
            return found(BEYOND);
        }
        Sheet source = sheets[s];
        Sheet target = sheets[t];
        if (source.bits == 0 || target.bits == 0) {
            return found(MISSING);
        }
        if (source.bits != target.bits) {
            return found(KIND);
        }
        if (n < 0 || !source.hasFrom(from, n) || !target.hasFrom(to, n)) {
            return found(BEYOND);
        }
        System.arraycopy(source.numbers, from, target.numbers, to, n);
        return n;
    }

    public int load(int s) {
        if (!isSheet(s)) {
            return found(BEYOND);
        }
        Sheet columns = sheets[s];
        if (columns.bits == 0) {
            return found(MISSING);
        }
        int came = 0;
        while (came < columns.size) {
            int column = columns.numbers[came];
            int coin = shelf.leastInHand();
            if (!isColumn(column) || coin < 0 || passesEnd(1)) {
                break;
            }
            shelf.release(coin, column);
            came++;
        }
        return came;
    }

    public int judge(int s) {
        if (!isSheet(s)) {
            return found(BEYOND);
        }
        Sheet told = sheets[s];
        if (told.bits == 0) {
            return found(MISSING);
        }
        if (passesEnd(told.size)) {
            return found(STATE);
        }
        trial.become(shelf);
        for (int i = 0; i < told.size; i++) {
            int before = trial.goneOver();
            trial.advance(1);
            if (trial.goneOver() - before != told.numbers[i]) {
                return 1 + i;
            }
        }
        return 0;
    }

    // ---- images

    public int image() {
        kept.become(shelf);
        isKept = true;
        return 1;
    }

    public int undo() {
        if (!isKept) {
            return found(NONE);
        }
        shelf.become(kept);
        return shelf.beat;
    }

    public int tear() {
        int was = isKept ? 1 : 0;
        isKept = false;
        return was;
    }

    public int count(int what) {
        switch (what) {
            case 0:
                return shelf.beat;
            case 1:
                return shelf.coins;
            case 2:
                return Integer.bitCount(shelf.bitsOnShelf());
            case 3:
                return shelf.worthOf(shelf.bitsOnShelf());
            case 4:
                return shelf.manyStacks();
            case 5:
                return tape.length;
            case 6:
                return shelf.z;
            case 7:
                return shelf.manySpotsHeld();
            default:
                return found(BEYOND);
        }
    }

    public int status(int which) {
        if (!within(which, -1, FINDINGS - 1)) {
            return found(BEYOND);
        }
        if (which >= 0) {
            return findings[which];
        }
        int all = 0;
        for (int i = 0; i < FINDINGS; i++) {
            all += findings[i];
        }
        return all;
    }

    // ---- what the acts share

    private int found(int which) {
        findings[which]++;
        return LOW - which;
    }

    private static boolean within(int v, int least, int most) {
        return v >= least && v <= most;
    }

    private static boolean isKind(int kind) {
        return within(kind, 0, KINDS - 1);
    }

    private static boolean isColumn(int column) {
        return within(column, 0, COLUMNS - 1);
    }

    private static boolean isCell(int column, int row) {
        return isColumn(column) && within(row, 0, ROWS - 1);
    }

    private static int cellOf(int column, int row) {
        return column * ROWS + row;
    }

    private static boolean isSheet(int s) {
        return within(s, 0, SHEETS - 1);
    }

    private static boolean isWidth(int bits) {
        return bits == 0 || bits == 8 || bits == 16 || bits == 32;
    }

    private static boolean isSetting(int what, int v) {
        return within(v, LEAST_SETTING[what], MOST_SETTING[what]);
    }

    private static boolean isUnder(int kind, int upper) {
        int k = kind;
        for (int level = 0; level < KINDS && k >= 0; level++) {
            if (k == upper) {
                return true;
            }
            k = OVER[k];
        }
        return false;
    }

    private boolean isCoin(int coin) {
        return within(coin, 0, shelf.coins - 1);
    }

    private boolean passesEnd(int n) {
        return shelf.beat + n > MOST_BEAT;
    }

    private boolean isSearched(int coin) {
        return shelf.places[coin] == HAND && shelf.beat <= LAST_SEARCHED_BEAT;
    }

    private boolean canDrop(int k) {
        return Integer.bitCount(shelf.bitsAt(HAND)) >= k && shelf.beat <= LAST_SEARCHED_BEAT;
    }

    /** GAIN n beats behind a drop that is tried; the shelf it is tried from stays as it is. */
    private int gainBy(Shelf from, int coin, int column, int n) {
        trial.become(from);
        trial.release(coin, column);
        trial.advance(n);
        return trial.gain();
    }

    private int gainOfThree(int way, int n) {
        trial.become(walk(way, MOST_DROPS));
        trial.advance(n);
        return trial.gain();
    }

    /** A way's columns are the digits of its number in base 7: so ways in order are columns in order. */
    private static int columnOf(int way, int k, int drop) {
        return way / WAYS[k - drop] % COLUMNS;
    }

    /**
     * The shelf behind the k drops of a way. The ways must be asked for in order from 0 on: a level is made
     * anew only where the drops up to it are others than those of the way before.
     */
    private Shelf walk(int way, int k) {
        for (int drop = 1; drop <= k; drop++) {
            if (way % WAYS[k - drop] == 0) {
                Shelf level = levels[drop];
                level.become(levels[drop - 1]);
                level.release(level.leastInHand(), columnOf(way, k, drop));
            }
        }
        return levels[k];
    }

    /** How many drops (times 343) and the number of the way by which a coin is won first; -1 if by none. */
    private int soonestWay(int coin) {
        for (int k = 0; k <= MOST_DROPS; k++) {
            if (!canDrop(k)) {
                return -1;
            }
            for (int way = 0; way < WAYS[k]; way++) {
                if (walk(way, k).places[coin] == WON) {
                    return k * WAYS[MOST_DROPS] + way;
                }
            }
        }
        return -1;
    }

    // ---- the reading of texts

    /** How many items the tape tells, done to a shelf; or -1 less the fault. */
    private int readText(Shelf onto) {
        tape.rewind();
        for (int items = 1; items <= MOST_BYTES; items++) {
            tape.next();
            if (!readItem(onto)) {
                return -1 - tape.start;
            }
            if (tape.token == END) {
                return items;
            }
            if (tape.token != SIGN) {
                return -1 - tape.start;
            }
        }
        return -1 - tape.start;
    }

    /** Reads the token behind the item too, or stops at the one that can't stand there. */
    private boolean readItem(Shelf onto) {
        for (int kind = 0; kind < KINDS; kind++) {
            if (tape.isWord(kindWord(kind))) {
                return readCoin(onto, kind);
            }
        }
        for (int what = 0; what < SETTINGS; what++) {
            if (tape.isWord(settingWord(what))) {
                return readSetting(onto, what);
            }
        }
        return false;
    }

    private boolean readCoin(Shelf onto, int kind) {
        if (onto.coins >= MOST_COINS) {
            return false;
        }
        int coin = onto.mint(kind);
        tape.next();
        if (!tape.isWord("at")) {
            return true;
        }
        tape.next();
        if (tape.token != NUMBER || !isColumn(tape.value)) {
            return false;
        }
        int column = tape.value;
        tape.next();
        if (tape.token != NUMBER || !isCell(column, tape.value) || !onto.hasRoom(cellOf(column, tape.value))) {
            return false;
        }
        onto.put(coin, cellOf(column, tape.value));
        tape.next();
        return true;
    }

    private boolean readSetting(Shelf onto, int what) {
        tape.next();
        if (tape.token != NUMBER || !isSetting(what, tape.value)) {
            return false;
        }
        onto.settings[what] = tape.value;
        tape.next();
        return true;
    }

    private static String kindWord(int kind) {
        switch (kind) {
            case 0:
                return "coin";
            case 1:
                return "big";
            case 2:
                return "watch";
            case 3:
                return "crown";
            case 4:
                return "bent";
            case 5:
                return "token";
            default:
                return "lead";
        }
    }

    private static String settingWord(int what) {
        switch (what) {
            case FORCE:
                return "force";
            case STROKE:
                return "stroke";
            default:
                return "sides";
        }
    }

    /** All that an image keeps: coins, cells, settings, BEAT, z and spots; and how it moves. */
    static final class Shelf {
        final int[] kinds = new int[MOST_COINS];
        /** The cell that a coin is in; or HAND, WON, HOUSE. */
        final int[] places = new int[MOST_COINS];
        final int[] heights = new int[CELLS];
        final int[] stacks = new int[CELLS * MOST_HIGH];
        final int[] settings = new int[SETTINGS];
        final int[] spots = new int[SPOTS];
        int coins = 0;
        int beat = 0;
        int dropped = 0;
        int z = 1;

        Shelf() {
            settings[FORCE] = 8;
            settings[STROKE] = 2;
            settings[SIDES] = 1;
            for (int i = 0; i < SPOTS; i++) {
                spots[i] = -1;
            }
        }

        void become(Shelf other) {
            System.arraycopy(other.kinds, 0, kinds, 0, MOST_COINS);
            System.arraycopy(other.places, 0, places, 0, MOST_COINS);
            System.arraycopy(other.heights, 0, heights, 0, CELLS);
            System.arraycopy(other.stacks, 0, stacks, 0, CELLS * MOST_HIGH);
            System.arraycopy(other.settings, 0, settings, 0, SETTINGS);
            System.arraycopy(other.spots, 0, spots, 0, SPOTS);
            coins = other.coins;
            beat = other.beat;
            dropped = other.dropped;
            z = other.z;
        }

        // ---- coins and stacks

        int mint(int kind) {
            int coin = coins;
            kinds[coin] = kind;
            places[coin] = HAND;
            coins++;
            return coin;
        }

        boolean hasRoom(int cell) {
            return heights[cell] < MOST_HIGH;
        }

        void put(int coin, int cell) {
            if (heights[cell] < MOST_HIGH) {
                stacks[cell * MOST_HIGH + heights[cell]] = coin;
                heights[cell]++;
                places[coin] = cell;
            }
        }

        /** The top coin of a stack, into the hand; -1 if there is none. */
        int pull(int cell) {
            if (heights[cell] == 0) {
                return -1;
            }
            heights[cell]--;
            int coin = stacks[cell * MOST_HIGH + heights[cell]];
            places[coin] = HAND;
            return coin;
        }

        boolean isOnShelf(int coin) {
            return places[coin] < CELLS;
        }

        int toldPlace(int coin) {
            int place = places[coin];
            return isOnShelf(coin) ? 10 * (place / ROWS) + place % ROWS : place;
        }

        int depthOf(int coin) {
            if (!isOnShelf(coin)) {
                return 0;
            }
            int bottom = places[coin] * MOST_HIGH;
            int depth = 0;
            while (depth < MOST_HIGH - 1 && stacks[bottom + depth] != coin) {
                depth++;
            }
            return depth;
        }

        // ---- sums over coins

        int bitsAt(int place) {
            int bits = 0;
            for (int coin = 0; coin < coins; coin++) {
                if (places[coin] == place) {
                    bits |= 1 << coin;
                }
            }
            return bits;
        }

        int bitsOnShelf() {
            int bits = 0;
            for (int coin = 0; coin < coins; coin++) {
                if (isOnShelf(coin)) {
                    bits |= 1 << coin;
                }
            }
            return bits;
        }

        int worthAt(int place) {
            return worthOf(bitsAt(place));
        }

        int worthOf(int bits) {
            int sum = 0;
            for (int coin = 0; coin < coins; coin++) {
                if (((bits >>> coin) & 1) == 1) {
                    sum += WORTH[kinds[coin]];
                }
            }
            return sum;
        }

        int goneOver() {
            return Integer.bitCount(bitsAt(WON) | bitsAt(HOUSE));
        }

        int leastInHand() {
            for (int coin = 0; coin < coins; coin++) {
                if (places[coin] == HAND) {
                    return coin;
                }
            }
            return -1;
        }

        int gain() {
            return worthAt(WON) - dropped;
        }

        int manyStacks() {
            int many = 0;
            for (int cell = 0; cell < CELLS; cell++) {
                if (heights[cell] > 0) {
                    many++;
                }
            }
            return many;
        }

        int highest() {
            int most = 0;
            for (int cell = 0; cell < CELLS; cell++) {
                most = Math.max(most, heights[cell]);
            }
            return most;
        }

        int manySpotsHeld() {
            int many = 0;
            for (int i = 0; i < SPOTS; i++) {
                if (spots[i] >= 0) {
                    many++;
                }
            }
            return many;
        }

        // ---- beats

        int runRows(int column) {
            int rows = 0;
            while (rows < ROWS && heights[column * ROWS + rows] > 0) {
                rows++;
            }
            return rows;
        }

        int runWeight(int column) {
            int sum = 0;
            for (int row = 0; row < ROWS; row++) {
                int cell = column * ROWS + row;
                if (heights[cell] == 0) {
                    break;
                }
                for (int k = 0; k < heights[cell]; k++) {
                    sum += WEIGHS[kinds[stacks[cell * MOST_HIGH + k]]];
                }
            }
            return sum;
        }

        /** No kind weighs nothing: so what weighs nothing is no run. */
        boolean pushMoves(int column) {
            int weight = runWeight(column);
            return weight > 0 && weight <= settings[FORCE];
        }

        boolean leans(int cell) {
            int high = heights[cell];
            int next = cell % ROWS == EDGE_ROW ? 0 : heights[cell + 1];
            return high >= next + 3 && topSlides(cell);
        }

        boolean topSlides(int cell) {
            int high = heights[cell];
            return high > 0 && SLIDES[kinds[stacks[cell * MOST_HIGH + high - 1]]] == 1;
        }

        void goOver(int coin, int column) {
            boolean atSide = column < settings[SIDES] || column >= COLUMNS - settings[SIDES];
            places[coin] = atSide ? HOUSE : WON;
        }

        void slideTop(int cell) {
            int coin = pull(cell);
            if (coin < 0) {
                return;
            }
            if (cell % ROWS == EDGE_ROW) {
                goOver(coin, cell / ROWS);
            } else {
                put(coin, cell + 1);
            }
        }

        /** From the run's end on: the cell in front of it is empty, or it would be of the run. */
        void pushRun(int column) {
            for (int row = runRows(column) - 1; row >= 0; row--) {
                int cell = column * ROWS + row;
                for (int k = 0; k < heights[cell]; k++) {
                    int coin = stacks[cell * MOST_HIGH + k];
                    if (row == EDGE_ROW) {
                        goOver(coin, column);
                    } else {
                        put(coin, cell + 1);
                    }
                }
                heights[cell] = 0;
            }
        }

        boolean pushAll() {
            boolean moves = false;
            for (int column = 0; column < COLUMNS; column++) {
                if (pushMoves(column)) {
                    pushRun(column);
                    moves = true;
                }
            }
            return moves;
        }

        boolean slideAll() {
            boolean moves = false;
            for (int row = EDGE_ROW; row >= 0; row--) {
                for (int cell = row; cell < CELLS; cell += ROWS) {
                    if (leans(cell)) {
                        slideTop(cell);
                        moves = true;
                    }
                }
            }
            return moves;
        }

        /** One beat; whether it moved a coin. */
        boolean passBeat() {
            int stroke = settings[STROKE];
            boolean pushed = stroke > 0 && beat % stroke == 0 && pushAll();
            boolean slid = slideAll();
            beat++;
            return pushed || slid;
        }

        /** Once as many beats as STROKE have moved nothing, no later one will: those are only counted. */
        void advance(int n) {
            int quiet = 0;
            for (int i = 0; i < n; i++) {
                if (quiet >= settings[STROKE]) {
                    beat += n - i;
                    return;
                }
                quiet = passBeat() ? 0 : quiet + 1;
            }
        }

        void release(int coin, int column) {
            if (coin < 0) {
                return;
            }
            int cell = column * ROWS + beat % 2;
            while (cell < CELLS && heights[cell] >= MOST_HIGH) {
                cell += ROWS;
            }
            if (cell < CELLS) {
                put(coin, cell);
            } else {
                places[coin] = HOUSE;
            }
            dropped++;
            passBeat();
        }

        /** A jolt: how many coins it moved. */
        int shake() {
            int many = 0;
            for (int row = EDGE_ROW; row >= 0; row--) {
                for (int cell = row; cell < CELLS; cell += ROWS) {
                    boolean free = row == EDGE_ROW || hasRoom(cell + 1);
                    if (free && heights[cell] >= 2 && topSlides(cell)) {
                        slideTop(cell);
                        many++;
                    }
                }
            }
            return many;
        }

        int draw() {
            z = z * 1103515245 + 12345;
            return z >>> 8;
        }
    }

    /** THE TAPE, and the token of it that is read just now. */
    static final class Tape {
        final int[] bytes = new int[MOST_BYTES];
        int length = 0;
        int token = END;
        int start = 0;
        int behind = 0;
        int value = 0;

        void append(int b) {
            if (length < MOST_BYTES) {
                bytes[length] = b;
                length++;
            }
        }

        void rewind() {
            behind = 0;
        }

        static boolean isLetter(int b) {
            return b >= 'a' && b <= 'z';
        }

        static boolean isDigit(int b) {
            return b >= '0' && b <= '9';
        }

        void next() {
            while (behind < length && bytes[behind] == ' ') {
                behind++;
            }
            start = behind;
            if (start >= length) {
                token = END;
            } else if (isLetter(bytes[start])) {
                readWord();
            } else if (isDigit(bytes[start])) {
                readNumber();
            } else {
                token = bytes[start] == ';' ? SIGN : OTHER;
                behind++;
            }
        }

        void readWord() {
            token = WORD;
            while (behind < length && isLetter(bytes[behind])) {
                behind++;
            }
        }

        void readNumber() {
            token = NUMBER;
            value = 0;
            while (behind < length && isDigit(bytes[behind])) {
                value = Math.min(value * 10 + bytes[behind] - '0', TOO_LARGE);
                behind++;
            }
        }

        boolean isWord(String word) {
            if (token != WORD || behind - start != word.length()) {
                return false;
            }
            for (int i = 0; i < word.length(); i++) {
                if (bytes[start + i] != word.charAt(i)) {
                    return false;
                }
            }
            return true;
        }
    }

    /** A row of numbers; of 0 bits it is missing. */
    static final class Sheet {
        final int[] numbers = new int[MOST_NUMBERS];
        int bits = 0;
        int size = 0;

        void renew(int newBits, int newSize) {
            bits = newBits;
            size = newSize;
            for (int i = 0; i < MOST_NUMBERS; i++) {
                numbers[i] = 0;
            }
        }

        void put(int i, int v) {
            if (bits == 8) {
                numbers[i] = (byte) v;
            } else if (bits == 16) {
                numbers[i] = (short) v;
            } else {
                numbers[i] = v;
            }
        }

        boolean hasFrom(int from, int n) {
            return from >= 0 && from <= size - n;
        }
    }
}
