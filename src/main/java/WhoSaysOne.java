import java.util.Arrays;

/**
 * The game of saying numbers until one must say 1 (Sylver coinage), with players of kinds, and what
 * can be had, cannot be had, is won and is counted in it. The words in capitals are the document's.
 */
public final class WhoSaysOne {
    public static final int BAD = -1, FULL = -2, FINDING = -3, STATE = -4, SPENT = -6, NONE = -9;

    private static final int NOTHING = 1, BEYOND = 2, UNLIKE = 3, NOUGHT = 4, SIZE = 5;
    private static final int ROWS = 6, TEXTS = 4, KEEPS = 3, PLACES = 60, PLAYERS = 2, COUNTS = 8;
    private static final int BLANK = 32, BYTE_SHIFT = 1000;
    private static final int ADDING = 0, DIFFERENCES = 1, THRICE = 2;
    private static final int SMALL = 1, PAIR = 2, BEST = 3, LONG = 4, CHANCE = 5;
    private static final int TOP = 60, MOST_SAID = 12, MOST_LOOKED = 4000;
    private static final int MOST_PAID = 400, MOST_COINS = 20;
    private static final int MOST_GAPS = 14, GAPS_END = 28;
    private static final int MOST_IN_TREE = 9, TREE_TOP = 17, ANY_TOP = -1;
    private static final int FAR = 1 << 20;
    private static final long LOT_FACTOR = 48271L, LOT_MODULUS = 2147483647L;
    private static final long TO_TOP = (1L << 61) - 1;

    private final Row[] rows = new Row[ROWS];
    private final Row[] texts = new Row[TEXTS];
    private final Game current = new Game();
    private final Game[] kept = new Game[KEEPS];
    private final boolean[] isKept = new boolean[KEEPS];
    private final Player[] family = {new Player(), new Small(), new Pair(), new Best(), new Longer(), new Chance()};
    private final int[] kinds = new int[PLAYERS];
    private int playerCount;
    private final Reader reader = new Reader();
    private final Sums sums = new Sums();
    private final Solver solver = new Solver();
    private int toldAside;
    private long toldUpper;
    private long toldLower = 1;
    private int latestFinding;
    private final int[] findingCounts = new int[SIZE + 1];

    public WhoSaysOne() {
        for (int r = 0; r < ROWS; r++) {
            rows[r] = new Row();
        }
        for (int t = 0; t < TEXTS; t++) {
            texts[t] = new Row();
        }
        for (int k = 0; k < KEEPS; k++) {
            kept[k] = new Game();
        }
    }

    // ---- 1 rows, texts, games

    public int row(int r, int n) {
        return begin(rows, r, n, 0);
    }

    public int lay(int r, int i, int v) {
        int refused = refusedPlace(rows, r, i);
        if (refused != 0) {
            return refused;
        }
        toldAside = rows[r].places[i];
        rows[r].places[i] = v;
        return 1;
    }

    public int at(int r, int i) {
        int refused = refusedPlace(rows, r, i);
        if (refused != 0) {
            return refused;
        }
        toldAside = rows[r].places[i];
        return 1;
    }

    public int tear(int r) {
        int refused = refusedRow(rows, r);
        if (refused != 0) {
            return refused;
        }
        rows[r].size = Row.MISSING;
        return 1;
    }

    public int copy(int r, int i, int to, int j, int n) {
        if (!isIn(r, rows.length) || !isIn(to, rows.length)) {
            return BAD;
        }
        if (n < 0) {
            return found(SIZE);
        }
        if (!rows[r].isThere() || !rows[to].isThere()) {
            return found(NOTHING);
        }
        if (!rows[r].holdsRun(i, n) || !rows[to].holdsRun(j, n)) {
            return found(BEYOND);
        }
        System.arraycopy(rows[r].places, i, rows[to].places, j, n);
        return 1;
    }

    public int mean(int r) {
        int refused = refusedRow(rows, r);
        if (refused != 0) {
            return refused;
        }
        int size = rows[r].size;
        if (size <= 0) {
            return found(NOUGHT);
        }
        long sum = 0;
        for (int i = 0; i < size; i++) {
            sum += rows[r].places[i];
        }
        toldAside = (int) (sum / size);
        return 1;
    }

    public int text(int t, int n) {
        return begin(texts, t, n, BLANK);
    }

    public int put(int t, int i, int v) {
        int refused = refusedPlace(texts, t, i);
        if (refused != 0) {
            return refused;
        }
        int old = texts[t].places[i];
        texts[t].places[i] = (byte) v;
        return old + BYTE_SHIFT;
    }

    public int fault(int t) {
        int refused = refusedRow(texts, t);
        if (refused != 0) {
            return refused;
        }
        return reader.faultOf(texts[t]);
    }

    public int game(int t) {
        int refused = refusedRow(texts, t);
        if (refused != 0) {
            return refused;
        }
        if (reader.faultOf(texts[t]) != NONE) {
            return STATE;
        }
        current.become(reader.read);
        playerCount = reader.playerCount;
        System.arraycopy(reader.kinds, 0, kinds, 0, PLAYERS);
        for (int k = 0; k < KEEPS; k++) {
            isKept[k] = false;
        }
        return current.size;
    }

    public int law() {
        return current.rule;
    }

    public int player(int p) {
        return isIn(p, playerCount) ? kinds[p] : BAD;
    }

    public int mark(int p, int kind) {
        if (!isIn(p, playerCount) || kind < SMALL || kind > CHANCE) {
            return BAD;
        }
        Player one = playerAt(p);
        if (!isOf(one, kind)) {
            return found(UNLIKE);
        }
        // Only what it SAYS asks for a GAME that goes on; a LONG one asked by its own KIND tells what MAY be.
        if (kind == SMALL && current.isOver()) {
            return STATE;
        }
        switch (kind) {
            case SMALL:
                return current.openBehind(one.choice(current, solver, 0));
            case PAIR:
                return current.open() == 0 ? NONE : current.pairNumber();
            case BEST:
                return solver.load(current) ? solver.winCount() : NONE;
            case LONG:
                return current.openCount();
            default:
                return Long.bitCount(current.openAboveOne());
        }
    }

    // ---- 2 saying

    public int say(int n) {
        if (n < 1 || n > TOP) {
            return BAD;
        }
        if (current.isOver() || !current.isOpen(n)) {
            return STATE;
        }
        if (current.size >= MOST_SAID && n != 1) {
            return FULL;
        }
        current.add(n);
        return current.openCount();
    }

    public int may(int n) {
        if (n < 1 || n > TOP) {
            return BAD;
        }
        return current.isOpen(n) ? 1 : 0;
    }

    public int said(int i) {
        if (i < 0) {
            return BAD;
        }
        return i < current.size ? current.numbers[i] : found(BEYOND);
    }

    public int undo(int i) {
        if (i < 0 || i > current.size) {
            return BAD;
        }
        int back = current.size - i;
        current.cut(i);
        return back;
    }

    public int turn() {
        toldAside = current.loser();
        return current.size % PLAYERS;
    }

    public int keep(int k) {
        if (!isIn(k, KEEPS)) {
            return BAD;
        }
        kept[k].become(current);
        isKept[k] = true;
        return current.size;
    }

    public int on(int k) {
        if (!isIn(k, KEEPS)) {
            return BAD;
        }
        if (!isKept[k]) {
            return found(NOTHING);
        }
        current.become(kept[k]);
        return current.size;
    }

    // ---- 3 what can be had

    public int had(int v) {
        if (v < 1 || v > MOST_LOOKED) {
            return BAD;
        }
        if (current.rule == DIFFERENCES) {
            int divisor = current.divisor();
            toldAside = NONE;
            return divisor > 0 && v % divisor == 0 ? 1 : 0;
        }
        int few = sums.fewest(current, v);
        toldAside = few < FAR ? few : NONE;
        return few < FAR ? 1 : 0;
    }

    public int ways(int v) {
        if (v < 1 || v > MOST_PAID) {
            return BAD;
        }
        if (current.rule != ADDING) {
            return STATE;
        }
        tellFraction(sums.waysOf(current, v), 1);
        return 1;
    }

    public int byJust(int v, int k) {
        if (v < 1 || v > MOST_PAID || k < 1 || k > MOST_COINS) {
            return BAD;
        }
        if (current.rule != ADDING) {
            return STATE;
        }
        tellFraction(sums.waysByJust(current, v, k), 1);
        return 1;
    }

    public int gaps(int r) {
        if (!isIn(r, ROWS)) {
            return BAD;
        }
        sums.load(current);
        if (sums.isEndless()) {
            return found(NOUGHT);
        }
        rows[r].begin(0, 0);
        for (int v = 1; v <= sums.greatestGap() && rows[r].size < PLACES; v++) {
            if (!sums.isHad(v)) {
                rows[r].add(v);
            }
        }
        return sums.gapCount();
    }

    public int greatest() {
        sums.load(current);
        if (sums.isEndless()) {
            return found(NOUGHT);
        }
        toldAside = sums.gapCount();
        return sums.greatestGap();
    }

    public int rest(int m, int i) {
        if (m < 2 || m > TOP || !isIn(i, m)) {
            return BAD;
        }
        if (current.rule != ADDING) {
            return STATE;
        }
        sums.load(current);
        // The least one is a sum of m numbers at most (of more, some make a multiple of m, and can go).
        for (int v = i == 0 ? m : i; v <= m * TOP; v += m) {
            if (sums.isHad(v)) {
                return v;
            }
        }
        return NONE;
    }

    public int needed() {
        int bits = current.neededBits();
        toldAside = Integer.bitCount(bits);
        return bits;
    }

    public int common() {
        return current.divisor();
    }

    public int from() {
        sums.load(current);
        return sums.isEndless() ? NONE : sums.greatestGap() + 1;
    }

    public int wish(int v) {
        if (v < 1 || v > MOST_LOOKED) {
            return BAD;
        }
        sums.load(current);
        if (current.rule != ADDING || !sums.isEndless() && sums.greatestGap() < v) {
            return STATE;
        }
        int first = NONE;
        int many = 0;
        for (int n = 2; n <= TOP; n++) {
            if (current.isOpen(n) && sums.greatestWith(n) < v) {
                first = many == 0 ? n : first;
                many++;
            }
        }
        if (many > 0) {
            toldAside = many;
        }
        return first;
    }

    // ---- 4 whose it is

    public int whose() {
        int refused = refusedSolving();
        if (refused != 0) {
            return refused;
        }
        toldAside = solver.winCount();
        return toldAside > 0 ? 1 : 0;
    }

    public int best(int r) {
        if (!isIn(r, ROWS)) {
            return BAD;
        }
        int refused = refusedSolving();
        if (refused != 0) {
            return refused;
        }
        rows[r].begin(0, 0);
        for (int n = 2; n < GAPS_END; n++) {
            if (solver.winsBy(n)) {
                rows[r].add(n);
            }
        }
        return rows[r].size;
    }

    public int lasts() {
        int refused = refusedSolving();
        if (refused != 0) {
            return refused;
        }
        toldAside = solver.shortest();
        // By saying the greatest GAP no other one goes, so all GAPS can be said, one by one.
        return solver.gapCount();
    }

    public int share() {
        int refused = refusedSolving();
        if (refused != 0) {
            return refused;
        }
        int wins = solver.winCount();
        tellFraction(wins, solver.gapCount());
        return wins;
    }

    public int says(int p) {
        if (!isIn(p, playerCount)) {
            return BAD;
        }
        if (current.isOver()) {
            return STATE;
        }
        return playerAt(p).choice(current, solver, 0);
    }

    public int play(int n, int seed) {
        if (n < 0 || n > MOST_SAID || seed < 1 || seed >= LOT_MODULUS) {
            return BAD;
        }
        if (playerCount < PLAYERS) {
            return STATE;
        }
        int lot = seed;
        int many = 0;
        while (many < n && current.size < MOST_SAID && !current.isOver()) {
            Player one = playerAt(current.size % PLAYERS);
            if (one instanceof Chance) {
                lot = (int) (lot * LOT_FACTOR % LOT_MODULUS);
            }
            current.add(one.choice(current, solver, lot));
            many++;
        }
        return many;
    }

    // ---- 5 lists of gaps, a tree of them

    public int list(int r) {
        int refused = refusedRow(rows, r);
        if (refused != 0) {
            return refused;
        }
        long gapBits = rows[r].asBits();
        if (gapBits < 0) {
            return found(UNLIKE);
        }
        toldAside = leastPaid(gapBits);
        return toldAside == 0 ? 1 : 0;
    }

    public int makes(int r, int to) {
        if (!isIn(to, ROWS)) {
            return BAD;
        }
        int refused = refusedRow(rows, r);
        if (refused != 0) {
            return refused;
        }
        long gapBits = rows[r].asBits();
        if (gapBits < 0 || leastPaid(gapBits) != 0) {
            return found(UNLIKE);
        }
        rows[to].begin(0, 0);
        // There may be more of them (of 1 .. 60 as GAPS 61) than come to the ROW, so they are counted apart.
        int many = 0;
        // What lies further than the least number HAD behind the last GAP is a sum with that number.
        for (int v = 1; v <= 2 * TOP + 1; v++) {
            if (isMaker(gapBits, v)) {
                rows[to].add(v);
                many++;
            }
        }
        return many;
    }

    public int tree(int n, int f) {
        if (n < 0 || n > MOST_IN_TREE || f < 0 || f > TREE_TOP) {
            return BAD;
        }
        tellFraction(setsBelow(0, 0, n, ANY_TOP), 1);
        toldAside = setsBelow(0, 0, n, f);
        return 1;
    }

    // ---- 6 what is told

    public int asked() {
        return toldAside;
    }

    public long upper() {
        return toldUpper;
    }

    public long lower() {
        return toldLower;
    }

    public int count(int what) {
        switch (what) {
            case 0:
                return playerCount;
            case 1:
                return current.size;
            case 2:
                return current.openCount();
            case 3:
                return playersOf(SMALL);
            case 4:
                return playersOf(PAIR);
            case 5:
                return keptCount();
            case 6:
                return thereOf(rows);
            case 7:
                return thereOf(texts);
            default:
                return BAD;
        }
    }

    public int finding() {
        return latestFinding;
    }

    public int findings(int f) {
        return f < NOTHING || f > SIZE ? BAD : findingCounts[f];
    }

    public long digest() {
        long h = 17;
        for (int what = 0; what < COUNTS; what++) {
            h = 31 * h + count(what);
        }
        h = 31 * h + current.rule;
        for (int p = 0; p < playerCount; p++) {
            h = 31 * h + kinds[p];
        }
        h = current.digestNumbers(h);
        for (int k = 0; k < KEEPS; k++) {
            h = isKept[k] ? kept[k].digestNumbers(31 * h + kept[k].rule) : 31 * h - 1;
        }
        for (int r = 0; r < ROWS; r++) {
            h = rows[r].digestPlaces(h);
        }
        for (int t = 0; t < TEXTS; t++) {
            h = texts[t].digestPlaces(h);
        }
        return h;
    }

    private static boolean isIn(int i, int end) {
        return i >= 0 && i < end;
    }

    private int found(int f) {
        latestFinding = f;
        findingCounts[f]++;
        return FINDING;
    }

    private void tellFraction(long above, long below) {
        toldUpper = above;
        toldLower = below;
        if (below > 1) {
            int divisor = divisorOf((int) above, (int) below);
            if (divisor > 1) {
                toldUpper = above / divisor;
                toldLower = below / divisor;
            }
        }
    }

    /** ROWS and TEXTS begin alike: only what fills them differs. */
    private int begin(Row[] those, int r, int n, int filling) {
        if (!isIn(r, those.length) || n > PLACES) {
            return BAD;
        }
        if (n < 0) {
            return found(SIZE);
        }
        those[r].begin(n, filling);
        return n;
    }

    /** 0, or why a ROW (or a TEXT) can't be used. */
    private int refusedRow(Row[] those, int r) {
        if (!isIn(r, those.length)) {
            return BAD;
        }
        return those[r].isThere() ? 0 : found(NOTHING);
    }

    /** 0, or why a place of a ROW (or a TEXT) can't be used. */
    private int refusedPlace(Row[] those, int r, int i) {
        int refused = refusedRow(those, r);
        if (refused != 0) {
            return refused;
        }
        return isIn(i, those[r].size) ? 0 : found(BEYOND);
    }

    /** 0, with the GAME loaded into the solver, or why it can't be told whose it is. */
    private int refusedSolving() {
        if (current.rule != ADDING || current.isOver()) {
            return STATE;
        }
        return solver.load(current) ? 0 : SPENT;
    }

    private Player playerAt(int p) {
        return family[kinds[p]];
    }

    private static boolean isOf(Player one, int kind) {
        switch (kind) {
            case SMALL:
                return one instanceof Small;
            case PAIR:
                return one instanceof Pair;
            case BEST:
                return one instanceof Best;
            case LONG:
                return one instanceof Longer;
            default:
                return one instanceof Chance;
        }
    }

    private int playersOf(int kind) {
        int many = 0;
        for (int p = 0; p < playerCount; p++) {
            if (isOf(playerAt(p), kind)) {
                many++;
            }
        }
        return many;
    }

    private int keptCount() {
        int many = 0;
        for (int k = 0; k < KEEPS; k++) {
            if (isKept[k]) {
                many++;
            }
        }
        return many;
    }

    private static int thereOf(Row[] those) {
        int many = 0;
        for (int r = 0; r < those.length; r++) {
            if (those[r].isThere()) {
                many++;
            }
        }
        return many;
    }

    /** The greatest number that divides both; of 0 and another one the other one. */
    private static int divisorOf(int a, int b) {
        int big = a;
        int small = b;
        for (int step = 0; step < 64 && small != 0; step++) {
            int left = big % small;
            big = small;
            small = left;
        }
        return big;
    }

    /** The place of the lowest of these bits, up to TOP; 0 if there is none above. */
    private static int lowestOf(long bits) {
        for (int v = 0; v <= TOP; v++) {
            if ((bits >> v & 1) == 1) {
                return v;
            }
        }
        return 0;
    }

    /** The place of the highest of these bits, up to TOP; 0 if there is none above. */
    private static int highestOf(long bits) {
        for (int v = TOP; v > 0; v--) {
            if ((bits >> v & 1) == 1) {
                return v;
            }
        }
        return 0;
    }

    private static boolean isGap(long gapBits, int v) {
        return v <= TOP && (gapBits >> v & 1) == 1;
    }

    /** Whether v is the sum of two numbers that are no GAPS. */
    private static boolean isPaid(long gapBits, int v) {
        for (int a = 1; a <= v / 2; a++) {
            if (!isGap(gapBits, a) && !isGap(gapBits, v - a)) {
                return true;
            }
        }
        return false;
    }

    /** The least of these GAPS that can be no GAP, as others make it; 0 if there is none. */
    private static int leastPaid(long gapBits) {
        for (int v = 1; v <= TOP; v++) {
            if (isGap(gapBits, v) && isPaid(gapBits, v)) {
                return v;
            }
        }
        return 0;
    }

    private static boolean isMaker(long gapBits, int v) {
        return !isGap(gapBits, v) && !isPaid(gapBits, v);
    }

    /**
     * How many sets of GAPS come from this one by so many GAPS more (those with greatest GAP f alone,
     * if f is not ANY_TOP). Each set comes once, as a GAP is put in only above all that are there.
     */
    private static int setsBelow(long gapBits, int top, int left, int f) {
        if (left <= 0 || left > MOST_IN_TREE) {
            return f == ANY_TOP || f == top ? 1 : 0;
        }
        int many = 0;
        // A maker above all GAPS is not further off than the least number HAD.
        int end = top + lowestOf(~gapBits & ~1L);
        for (int v = top + 1; v <= end && v <= TOP; v++) {
            if (isMaker(gapBits, v)) {
                many += setsBelow(gapBits | 1L << v, v, left - 1, f);
            }
        }
        return many;
    }

    /** A ROW, or a TEXT (its bytes as ints). It is made once: its size alone says whether it is there. */
    private static final class Row {
        static final int MISSING = -1;

        final int[] places = new int[PLACES];
        int size = MISSING;

        boolean isThere() {
            return size >= 0;
        }

        boolean holdsRun(int i, int n) {
            return i >= 0 && i <= size && n <= size - i;
        }

        void begin(int n, int filling) {
            Arrays.fill(places, filling);
            size = n;
        }

        void add(int v) {
            if (isIn(size, PLACES)) {
                places[size] = v;
                size++;
            }
        }

        /** Its numbers as bits; below 0, if one of them is not 1 .. 60, or is there twice. */
        long asBits() {
            long bits = 0;
            for (int i = 0; i < size; i++) {
                int v = places[i];
                if (v < 1 || v > TOP || (bits >> v & 1) == 1) {
                    return -1;
                }
                bits |= 1L << v;
            }
            return bits;
        }

        long digestPlaces(long before) {
            long h = 31 * before + size;
            for (int i = 0; i < size; i++) {
                h = 31 * h + places[i];
            }
            return h;
        }
    }

    /** The LAW and the numbers SAID. */
    private static final class Game {
        // One more than MOST_SAID, as 1 may be SAID behind the twelfth, too.
        final int[] numbers = new int[MOST_SAID + 1];
        int size;
        int rule;
        // Bit v: v is HAD. Bit 0 is always there, so that sums have where to begin.
        private long reached = 1;

        void begin(int newRule) {
            rule = newRule;
            size = 0;
            reached = 1;
        }

        void add(int n) {
            if (isIn(size, numbers.length)) {
                numbers[size] = n;
                size++;
                reached = reachedWith(n);
            }
        }

        void cut(int i) {
            size = i;
            reached = reachedWithout(NONE);
        }

        void become(Game other) {
            System.arraycopy(other.numbers, 0, numbers, 0, numbers.length);
            size = other.size;
            rule = other.rule;
            reached = other.reached;
        }

        int last() {
            return isIn(size - 1, numbers.length) ? numbers[size - 1] : 0;
        }

        int divisor() {
            int divisor = 0;
            for (int i = 0; i < size; i++) {
                divisor = divisorOf(divisor, numbers[i]);
            }
            return divisor;
        }

        long open() {
            return ~reached & TO_TOP;
        }

        long openAboveOne() {
            return open() & ~2L;
        }

        int openCount() {
            return Long.bitCount(open());
        }

        boolean isOpen(int n) {
            return n >= 1 && n <= TOP && (open() >> n & 1) == 1;
        }

        /** How many MAY be SAID, when n was SAID. */
        int openBehind(int n) {
            return Long.bitCount(~reachedWith(n) & TO_TOP);
        }

        /** The least above 1 that MAY be SAID; 1 if there is none. */
        int leastAboveOne() {
            long bits = openAboveOne();
            return bits == 0 ? 1 : lowestOf(bits);
        }

        /** What a PAIR would like to say. */
        int pairNumber() {
            return highestOf(open()) - last();
        }

        /** 1 can only be the last one, as it ends the GAME. */
        boolean isOver() {
            return last() == 1 || open() == 0;
        }

        int loser() {
            if (!isOver()) {
                return NONE;
            }
            return last() == 1 ? (size - 1) % PLAYERS : size % PLAYERS;
        }

        int neededBits() {
            int bits = 0;
            for (int i = 0; i < size; i++) {
                if ((reachedWithout(i) >> numbers[i] & 1) == 0) {
                    bits |= 1 << i;
                }
            }
            return bits;
        }

        long digestNumbers(long before) {
            long h = before;
            for (int i = 0; i < size; i++) {
                h = 31 * h + numbers[i];
            }
            return h;
        }

        private long reachedWith(int n) {
            return widened(rule, reached, n);
        }

        private long reachedWithout(int i) {
            long bits = 1;
            for (int j = 0; j < size; j++) {
                if (j != i) {
                    bits = widened(rule, bits, numbers[j]);
                }
            }
            return bits;
        }

        private static long widened(int rule, long before, int n) {
            int step = n;
            if (rule == DIFFERENCES && before > 1) {
                // What was HAD are the multiples of its least number, and so they stay.
                step = divisorOf(lowestOf(before & ~1L), n);
            }
            if (step < 1 || step > TOP) {
                return before;
            }
            int times = rule == THRICE ? 3 : TOP / step;
            long bits = before;
            for (int k = 0; k < times; k++) {
                bits |= bits << step & TO_TOP;
            }
            return bits;
        }
    }

    /** The KINDS are a family, as a LONG one can be asked as a SMALL one, a CHANCE as a PAIR. */
    private static class Player {
        /** What it SAYS, while the GAME is not OVER; a lot of 0 stands for none. */
        int choice(Game game, Solver solver, int lot) {
            return game.leastAboveOne();
        }
    }

    private static class Small extends Player {
        boolean isBetter(int left, int than) {
            return left < than;
        }

        int choice(Game game, Solver solver, int lot) {
            int chosen = 1;
            int leftBehind = 0;
            for (int n = 2; n <= TOP; n++) {
                if (game.isOpen(n)) {
                    int left = game.openBehind(n);
                    if (chosen == 1 || isBetter(left, leftBehind)) {
                        chosen = n;
                        leftBehind = left;
                    }
                }
            }
            return chosen;
        }
    }

    private static final class Longer extends Small {
        boolean isBetter(int left, int than) {
            return left > than;
        }
    }

    private static class Pair extends Player {
        int choice(Game game, Solver solver, int lot) {
            int wanted = game.pairNumber();
            return wanted > 1 && game.isOpen(wanted) ? wanted : game.leastAboveOne();
        }
    }

    private static final class Chance extends Pair {
        int choice(Game game, Solver solver, int lot) {
            if (lot <= 0) {
                return super.choice(game, solver, lot);
            }
            long bits = game.openAboveOne();
            int many = Long.bitCount(bits);
            if (many == 0) {
                return 1;
            }
            int ahead = lot % many;
            for (int i = 0; i < ahead; i++) {
                bits &= bits - 1;
            }
            return lowestOf(bits);
        }
    }

    private static final class Best extends Player {
        int choice(Game game, Solver solver, int lot) {
            int winning = solver.load(game) ? solver.leastWin() : 0;
            return winning > 1 ? winning : game.leastAboveOne();
        }
    }

    /** Reads a TEXT as far as it goes; place stands at the FAULT, when it can't go on. */
    private static final class Reader {
        final Game read = new Game();
        final int[] kinds = new int[PLAYERS];
        int playerCount;
        private int place;

        int faultOf(Row text) {
            read.begin(ADDING);
            playerCount = 0;
            place = 0;
            boolean first = true;
            for (int step = 0; step < PLACES && place < text.size; step++) {
                if (text.places[place] == BLANK) {
                    place++;
                } else if (takesItem(text, first)) {
                    first = false;
                } else {
                    return place;
                }
            }
            return NONE;
        }

        private boolean takesItem(Row text, boolean first) {
            switch (text.places[place]) {
                case 'l':
                    return first && takesLaw(text);
                case 'n':
                    return takesNumber(text);
                case 'p':
                    return takesPlayer(0);
                case 's':
                    return takesPlayer(SMALL);
                case 'a':
                    return takesPlayer(PAIR);
                case 'b':
                    return takesPlayer(BEST);
                case 'g':
                    return takesPlayer(LONG);
                case 'c':
                    return takesPlayer(CHANCE);
                default:
                    return false;
            }
        }

        private boolean takesLaw(Row text) {
            place++;
            int figure = figureHere(text);
            if (figure < ADDING || figure > THRICE) {
                return false;
            }
            read.begin(figure);
            place++;
            return true;
        }

        private boolean takesPlayer(int kind) {
            if (!isIn(playerCount, PLAYERS)) {
                return false;
            }
            kinds[playerCount] = kind;
            playerCount++;
            place++;
            return true;
        }

        private boolean takesNumber(Row text) {
            if (read.size >= MOST_SAID) {
                return false;
            }
            place++;
            int number = figureHere(text);
            if (number < 0) {
                return false;
            }
            place++;
            int second = figureHere(text);
            if (second >= 0) {
                number = 10 * number + second;
                place++;
            }
            if (number < 2 || !read.isOpen(number)) {
                return false;
            }
            read.add(number);
            return true;
        }

        /** The figure where it reads; below 0 if there is none. */
        private int figureHere(Row text) {
            if (!isIn(place, text.size)) {
                return -1;
            }
            int figure = text.places[place] - '0';
            return figure <= 9 ? figure : -1;
        }
    }

    /** What can be had of the numbers SAID, far above 60 too. */
    private static final class Sums {
        // By each rest modulo the first number the least sum (0 of none): all above it by that number are HAD.
        private final int[] least = new int[TOP];
        private final int[] leastWith = new int[TOP];
        private int modulus;
        private final int[] few = new int[MOST_LOOKED + 1];
        private final long[] ways = new long[MOST_PAID + 1];
        private final long[][] just = new long[MOST_COINS + 1][MOST_PAID + 1];

        void load(Game game) {
            modulus = 0;
            Arrays.fill(least, FAR);
            if (game.rule == DIFFERENCES) {
                // By taking off, too, all is HAD that by adding comes of what they have in common.
                modulus = game.divisor();
                least[0] = 0;
            } else if (game.rule == ADDING && game.size > 0) {
                modulus = game.numbers[0];
                least[0] = 0;
                for (int i = 1; i < game.size; i++) {
                    widen(least, modulus, game.numbers[i]);
                }
            }
        }

        /** GAPS have no end; by LAW 2 they never have one, and nothing is loaded. */
        boolean isEndless() {
            return greatestOf(least, modulus) >= FAR;
        }

        /** To be asked only if GAPS have an end. */
        int greatestGap() {
            return greatestOf(least, modulus);
        }

        /** To be asked only if GAPS have an end. */
        int gapCount() {
            int many = 0;
            for (int i = 0; i < modulus && i < TOP; i++) {
                many += least[i] / modulus;
            }
            return many;
        }

        boolean isHad(int v) {
            return modulus > 0 && v > 0 && least[v % modulus] <= v;
        }

        /** The greatest GAP (FAR, if there is none such), when n is SAID, too. */
        int greatestWith(int n) {
            System.arraycopy(least, 0, leastWith, 0, TOP);
            widen(leastWith, modulus, n);
            return greatestOf(leastWith, modulus);
        }

        /** By how few numbers v comes; FAR, if it does not. */
        int fewest(Game game, int v) {
            Arrays.fill(few, FAR);
            few[0] = 0;
            for (int i = 0; i < game.size; i++) {
                if (game.rule == THRICE) {
                    takeThrice(game.numbers[i], v);
                } else {
                    takeOften(game.numbers[i], v);
                }
            }
            return few[v];
        }

        long waysOf(Game game, int v) {
            Arrays.fill(ways, 0);
            ways[0] = 1;
            for (int i = 0; i < game.size; i++) {
                int n = game.numbers[i];
                for (int sum = n; sum <= v; sum++) {
                    ways[sum] += ways[sum - n];
                }
            }
            return ways[v];
        }

        long waysByJust(Game game, int v, int k) {
            for (int coins = 0; coins <= k; coins++) {
                Arrays.fill(just[coins], 0);
            }
            just[0][0] = 1;
            for (int i = 0; i < game.size; i++) {
                int n = game.numbers[i];
                for (int coins = 1; coins <= k; coins++) {
                    for (int sum = n; sum <= v; sum++) {
                        just[coins][sum] += just[coins - 1][sum - n];
                    }
                }
            }
            return just[k][v];
        }

        private void takeOften(int n, int v) {
            for (int sum = n; sum <= v; sum++) {
                few[sum] = Math.min(few[sum], few[sum - n] + 1);
            }
        }

        /** From above, so that what is looked at is still without n. */
        private void takeThrice(int n, int v) {
            for (int sum = v; sum >= n; sum--) {
                for (int times = 1; times <= 3 && times * n <= sum; times++) {
                    few[sum] = Math.min(few[sum], few[sum - times * n] + times);
                }
            }
        }

        /** Twice around each ring of rests: the least of the ring is met once, and told on to all. */
        private static void widen(int[] table, int modulus, int n) {
            if (modulus < 1 || modulus > TOP || n < 1) {
                return;
            }
            int rings = divisorOf(modulus, n);
            if (rings < 1) {
                return;
            }
            int steps = 2 * modulus / rings;
            for (int ring = 0; ring < rings && ring < modulus; ring++) {
                int here = ring;
                for (int step = 0; step < steps; step++) {
                    int next = (here + n) % modulus;
                    table[next] = Math.min(table[next], table[here] + n);
                    here = next;
                }
            }
        }

        private static int greatestOf(int[] table, int modulus) {
            if (modulus < 1 || modulus > TOP) {
                return FAR;
            }
            int most = 0;
            for (int i = 0; i < modulus; i++) {
                most = Math.max(most, table[i]);
            }
            return most >= FAR ? FAR : Math.max(0, most - modulus);
        }
    }

    /** Whose a GAME is by LAW 0, while GAPS are few: then they are all below GAPS_END, and bits of an int. */
    private static final class Solver {
        private static final int SLOTS = 1024, SLOT_BITS = 10, SPREAD = 0x9E3779B9;
        private static final int ALL = (1 << GAPS_END) - 1, ONE_ALONE = 2;

        private int gapBits;
        // What is known of sets of GAPS: it does not depend on the GAME, so it stays from call to call.
        private final int[] keys = new int[SLOTS];
        private final int[] values = new int[SLOTS];
        private int used;

        /** Whether the GAME can be SOLVED; then it is the one that is asked about. */
        boolean load(Game game) {
            long open = game.open();
            if (game.rule != ADDING || open >> GAPS_END != 0 || Long.bitCount(open) > MOST_GAPS) {
                return false;
            }
            gapBits = (int) open;
            if (used > SLOTS / 2) {
                Arrays.fill(keys, 0);
                used = 0;
            }
            return true;
        }

        int gapCount() {
            return Integer.bitCount(gapBits);
        }

        boolean winsBy(int n) {
            return n > 1 && n < GAPS_END && (gapBits >> n & 1) == 1
                    && !isWin(solved(this, gapsBehind(gapBits, n), 0));
        }

        int leastWin() {
            for (int n = 2; n < GAPS_END; n++) {
                if (winsBy(n)) {
                    return n;
                }
            }
            return 0;
        }

        int winCount() {
            int many = 0;
            for (int n = 2; n < GAPS_END; n++) {
                if (winsBy(n)) {
                    many++;
                }
            }
            return many;
        }

        int shortest() {
            return solved(this, gapBits, 0) / 2;
        }

        private static boolean isWin(int answer) {
            return answer % 2 == 1;
        }

        private static int gapsBehind(int gapBits, int n) {
            int had = ~gapBits & ALL;
            for (int times = 1; times * n < GAPS_END && times < GAPS_END; times++) {
                had |= had << n & ALL;
            }
            return ~had & ALL;
        }

        /** Twice the fewest numbers until it is OVER, and 1 more if who is to speak WINS. */
        private static int solved(Solver s, int gapBits, int depth) {
            if (gapBits <= ONE_ALONE || depth > MOST_GAPS) {
                return gapBits == ONE_ALONE ? 2 : 0;
            }
            int slot = s.slotOf(gapBits);
            if (slot >= 0 && s.keys[slot] == gapBits) {
                return s.values[slot];
            }
            int fewest = MOST_GAPS;
            int win = 0;
            for (int n = 2; n < GAPS_END; n++) {
                if ((gapBits >> n & 1) == 1) {
                    int answer = solved(s, gapsBehind(gapBits, n), depth + 1);
                    fewest = Math.min(fewest, 1 + answer / 2);
                    win = isWin(answer) ? win : 1;
                }
            }
            s.remember(gapBits, 2 * fewest + win);
            return 2 * fewest + win;
        }

        private void remember(int gapBits, int answer) {
            int slot = slotOf(gapBits);
            if (slot >= 0 && keys[slot] == 0) {
                keys[slot] = gapBits;
                values[slot] = answer;
                used++;
            }
        }

        /** Where a set stands, or could; below 0 if all is taken by others. */
        private int slotOf(int gapBits) {
            int first = gapBits * SPREAD >>> 32 - SLOT_BITS;
            for (int i = 0; i < SLOTS; i++) {
                int slot = first + i & SLOTS - 1;
                if (keys[slot] == gapBits || keys[slot] == 0) {
                    return slot;
                }
            }
            return -1;
        }
    }
}
