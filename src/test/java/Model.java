import java.math.BigInteger;
import java.util.ArrayList;
import java.util.Arrays;
import java.util.HashMap;
import java.util.HashSet;
import java.util.List;
import java.util.Map;
import java.util.TreeSet;

/** The document again, by the slowest and plainest ways, for ModelTest to compare with. */
final class Model {
    private static final int BAD = -1, FULL = -2, FINDING = -3, STATE = -4, SPENT = -6, NONE = -9;
    private static final int FAR = 4200;
    private static final int[][] TREE = countTree();
    private static final Map<TreeSet<Integer>, int[]> SOLVED = new HashMap<>();

    private final int[][] rows = new int[6][];
    private final byte[][] texts = new byte[4][];
    private int law;
    private List<Integer> said = new ArrayList<>();
    private List<Integer> kinds = new ArrayList<>();
    private final List<List<Integer>> kept = new ArrayList<>(Arrays.asList(null, null, null));
    private final int[] keptLaw = new int[3];
    private int asked;
    private BigInteger upper = BigInteger.ZERO;
    private BigInteger lower = BigInteger.ONE;
    private int finding;
    private final int[] findings = new int[6];

    // ---- what is HAD

    /** By how few numbers each one up to far comes (1 for all by LAW 1); 0: it is not HAD. */
    private static int[] sums(int law, List<Integer> numbers, int far) {
        return law == 0 ? sumsOften(numbers, far) : law == 1 ? differences(numbers, far) : sumsThrice(numbers, far);
    }

    private static int[] sumsOften(List<Integer> numbers, int far) {
        int[] few = new int[far + 1];
        for (int v = 1; v <= far; v++) {
            for (int n : numbers) {
                if (v == n || v > n && few[v - n] > 0) {
                    few[v] = few[v] == 0 ? few[v - n] + 1 : Math.min(few[v], few[v - n] + 1);
                }
            }
        }
        return few;
    }

    /** Walks by all steps up and down, with some room below 1 and above far. */
    private static int[] differences(List<Integer> numbers, int far) {
        boolean[] reached = new boolean[far + 121];
        List<Integer> next = new ArrayList<>();
        if (!numbers.isEmpty()) {
            next.add(60);
            reached[60] = true;
        }
        while (!next.isEmpty()) {
            int v = next.remove(next.size() - 1);
            for (int n : numbers) {
                for (int w : new int[] {v - n, v + n}) {
                    if (w >= 0 && w < reached.length && !reached[w]) {
                        reached[w] = true;
                        next.add(w);
                    }
                }
            }
        }
        int[] few = new int[far + 1];
        for (int v = 1; v <= far; v++) {
            few[v] = reached[v + 60] ? 1 : 0;
        }
        return few;
    }

    private static int[] sumsThrice(List<Integer> numbers, int far) {
        Map<Integer, Integer> few = new HashMap<>();
        few.put(0, 0);
        for (int n : numbers) {
            Map<Integer, Integer> more = new HashMap<>(few);
            for (Map.Entry<Integer, Integer> one : few.entrySet()) {
                for (int times = 1; times <= 3; times++) {
                    more.merge(one.getKey() + times * n, one.getValue() + times, Math::min);
                }
            }
            few = more;
        }
        int[] answer = new int[far + 1];
        for (int v = 1; v <= far; v++) {
            answer[v] = few.getOrDefault(v, 0);
        }
        return answer;
    }

    private static TreeSet<Integer> open(int law, List<Integer> numbers) {
        TreeSet<Integer> open = new TreeSet<>();
        int[] sums = sums(law, numbers, 60);
        for (int v = 1; v <= 60; v++) {
            if (sums[v] == 0) {
                open.add(v);
            }
        }
        return open;
    }

    private TreeSet<Integer> open() {
        return open(law, said);
    }

    private static List<Integer> with(List<Integer> numbers, int n) {
        List<Integer> more = new ArrayList<>(numbers);
        more.add(n);
        return more;
    }

    private boolean over() {
        return said.contains(1) || open().isEmpty();
    }

    /** All GAPS, or null: without end. */
    private static TreeSet<Integer> gaps(int law, List<Integer> numbers) {
        int[] sums = sums(law, numbers, FAR);
        TreeSet<Integer> gaps = new TreeSet<>();
        for (int v = 1; v <= FAR; v++) {
            if (sums[v] == 0) {
                gaps.add(v);
            }
        }
        boolean endless = law == 2 || !gaps.isEmpty() && gaps.last() > FAR - 100;
        return endless ? null : gaps;
    }

    // ---- whose it is

    /** Of these GAPS: 1 if it is won, how long it lasts at most, how long at least. */
    private static int[] solve(TreeSet<Integer> gaps) {
        int[] known = SOLVED.get(gaps);
        if (known != null) {
            return known;
        }
        int[] answer = {0, 1, 1};
        if (gaps.size() > 1) {
            answer[2] = 99;
        }
        for (int n : gaps) {
            if (n > 1) {
                int[] other = solve(behind(gaps, n));
                answer[0] = other[0] == 0 ? 1 : answer[0];
                answer[1] = Math.max(answer[1], other[1] + 1);
                answer[2] = Math.min(answer[2], other[2] + 1);
            }
        }
        SOLVED.put(gaps, answer);
        return answer;
    }

    private static TreeSet<Integer> behind(TreeSet<Integer> gaps, int n) {
        TreeSet<Integer> left = new TreeSet<>();
        for (int g : gaps) {
            boolean had = false;
            for (int v = g; v >= 0; v -= n) {
                had |= !gaps.contains(v) && (v < g || v == 0);
            }
            if (!had) {
                left.add(g);
            }
        }
        return left;
    }

    private TreeSet<Integer> solvable() {
        if (law != 0) {
            return null;
        }
        TreeSet<Integer> gaps = gaps(law, said);
        return gaps == null || gaps.size() > 14 ? null : gaps;
    }

    private static List<Integer> winning(TreeSet<Integer> gaps) {
        List<Integer> wins = new ArrayList<>();
        for (int n : gaps) {
            if (n > 1 && solve(behind(gaps, n))[0] == 0) {
                wins.add(n);
            }
        }
        return wins;
    }

    private int refusedSolving() {
        if (law != 0 || over()) {
            return STATE;
        }
        return solvable() == null ? SPENT : 0;
    }

    // ---- PLAYERS

    private boolean isOf(int p, int kind) {
        int is = kinds.get(p);
        return is == kind || kind == 1 && is == 4 || kind == 2 && is == 5;
    }

    private int plain() {
        Integer least = open().higher(1);
        return least == null ? 1 : least;
    }

    private int says(int kind, long lot) {
        TreeSet<Integer> open = open();
        switch (kind) {
            case 1:
            case 4:
                int chosen = 1;
                int left = 0;
                for (int n : open.tailSet(1, false)) {
                    int now = open(law, with(said, n)).size();
                    if (chosen == 1 || (kind == 1 ? now < left : now > left)) {
                        chosen = n;
                        left = now;
                    }
                }
                return chosen;
            case 3:
                TreeSet<Integer> gaps = solvable();
                return gaps == null || winning(gaps).isEmpty() ? plain() : winning(gaps).get(0);
            case 5:
                List<Integer> above = new ArrayList<>(open.tailSet(1, false));
                if (lot > 0) {
                    return above.isEmpty() ? 1 : above.get((int) (lot % above.size()));
                }
                return says(2, 0);
            case 2:
                int wanted = open.last() - (said.isEmpty() ? 0 : said.get(said.size() - 1));
                return wanted > 1 && open.contains(wanted) ? wanted : plain();
            default:
                return plain();
        }
    }

    // ---- the calls

    private int find(int f) {
        finding = f;
        findings[f]++;
        return FINDING;
    }

    private static boolean out(int v, int least, int most) {
        return v < least || v > most;
    }

    private void setRow(int r, List<Integer> values) {
        rows[r] = values.stream().limit(60).mapToInt(Integer::intValue).toArray();
    }

    private void fraction(BigInteger above, BigInteger below) {
        BigInteger divisor = above.gcd(below);
        upper = above.divide(divisor);
        lower = below.divide(divisor);
    }

    public int row(int r, int n) {
        if (out(r, 0, 5) || n > 60) {
            return BAD;
        }
        if (n < 0) {
            return find(5);
        }
        rows[r] = new int[n];
        return n;
    }

    public int lay(int r, int i, int v) {
        int answer = at(r, i);
        if (answer == 1) {
            rows[r][i] = v;
        }
        return answer;
    }

    public int at(int r, int i) {
        if (out(r, 0, 5)) {
            return BAD;
        }
        if (rows[r] == null) {
            return find(1);
        }
        if (out(i, 0, rows[r].length - 1)) {
            return find(2);
        }
        asked = rows[r][i];
        return 1;
    }

    public int tear(int r) {
        if (out(r, 0, 5)) {
            return BAD;
        }
        if (rows[r] == null) {
            return find(1);
        }
        rows[r] = null;
        return 1;
    }

    public int copy(int r, int i, int to, int j, int n) {
        if (out(r, 0, 5) || out(to, 0, 5)) {
            return BAD;
        }
        if (n < 0) {
            return find(5);
        }
        if (rows[r] == null || rows[to] == null) {
            return find(1);
        }
        if (i < 0 || j < 0 || (long) i + n > rows[r].length || (long) j + n > rows[to].length) {
            return find(2);
        }
        int[] ahead = rows[r].clone();
        for (int k = 0; k < n; k++) {
            rows[to][j + k] = ahead[i + k];
        }
        return 1;
    }

    public int mean(int r) {
        if (out(r, 0, 5)) {
            return BAD;
        }
        if (rows[r] == null) {
            return find(1);
        }
        if (rows[r].length == 0) {
            return find(4);
        }
        asked = (int) (Arrays.stream(rows[r]).asLongStream().sum() / rows[r].length);
        return 1;
    }

    public int text(int t, int n) {
        if (out(t, 0, 3) || n > 60) {
            return BAD;
        }
        if (n < 0) {
            return find(5);
        }
        texts[t] = new byte[n];
        Arrays.fill(texts[t], (byte) ' ');
        return n;
    }

    public int put(int t, int i, int v) {
        if (out(t, 0, 3)) {
            return BAD;
        }
        if (texts[t] == null) {
            return find(1);
        }
        if (out(i, 0, texts[t].length - 1)) {
            return find(2);
        }
        int old = texts[t][i];
        texts[t][i] = (byte) v;
        return old + 1000;
    }

    /** What a text says, up to its FAULT: by cutting item after item off its head. */
    private static final class Told {
        int law;
        final List<Integer> said = new ArrayList<>();
        final List<Integer> kinds = new ArrayList<>();
        int fault = NONE;

        Told(byte[] bytes) {
            StringBuilder all = new StringBuilder();
            for (byte b : bytes) {
                all.append((char) (b & 0xFF));
            }
            int i = 0;
            int items = 0;
            while (i < all.length() && fault == NONE) {
                String rest = all.substring(i);
                if (rest.startsWith(" ")) {
                    i++;
                    continue;
                }
                int taken = item(rest, items);
                if (taken < 0) {
                    fault = i - taken - 1;
                }
                i += taken;
                items++;
            }
        }

        /** How long the item is; -1 less how far in the FAULT is, if there is one. */
        private int item(String rest, int items) {
            int kind = "psabgc".indexOf(rest.charAt(0));
            if (rest.charAt(0) == 'l' && items == 0) {
                if (!rest.matches("(?s)l[012].*")) {
                    return -2;
                }
                law = rest.charAt(1) - '0';
                return 2;
            }
            if (kind >= 0 && kinds.size() < 2) {
                kinds.add(kind);
                return 1;
            }
            if (rest.charAt(0) == 'n' && said.size() < 12) {
                if (!rest.matches("(?s)n[0-9].*")) {
                    return -2;
                }
                int end = rest.matches("(?s)n[0-9][0-9].*") ? 3 : 2;
                int n = Integer.parseInt(rest.substring(1, end));
                if (n < 2 || !open(law, said).contains(n)) {
                    return -1 - end;
                }
                said.add(n);
                return end;
            }
            return -1;
        }
    }

    public int fault(int t) {
        if (out(t, 0, 3)) {
            return BAD;
        }
        return texts[t] == null ? find(1) : new Told(texts[t]).fault;
    }

    public int game(int t) {
        if (out(t, 0, 3)) {
            return BAD;
        }
        if (texts[t] == null) {
            return find(1);
        }
        Told told = new Told(texts[t]);
        if (told.fault != NONE) {
            return STATE;
        }
        law = told.law;
        said = told.said;
        kinds = told.kinds;
        for (int k = 0; k < 3; k++) {
            kept.set(k, null);
        }
        return said.size();
    }

    public int law() {
        return law;
    }

    public int player(int p) {
        return out(p, 0, kinds.size() - 1) ? BAD : kinds.get(p);
    }

    public int mark(int p, int kind) {
        if (out(p, 0, kinds.size() - 1) || out(kind, 1, 5)) {
            return BAD;
        }
        if (!isOf(p, kind)) {
            return find(3);
        }
        if (kind == 1 && over()) {
            return STATE;
        }
        TreeSet<Integer> open = open();
        switch (kind) {
            case 1:
                return open(law, with(said, says(kinds.get(p), 0))).size();
            case 2:
                return open.isEmpty() ? NONE : open.last() - (said.isEmpty() ? 0 : said.get(said.size() - 1));
            case 3:
                return solvable() == null ? NONE : winning(solvable()).size();
            case 4:
                return open.size();
            default:
                return open.tailSet(1, false).size();
        }
    }

    public int say(int n) {
        if (out(n, 1, 60)) {
            return BAD;
        }
        if (over() || !open().contains(n)) {
            return STATE;
        }
        if (said.size() >= 12 && n > 1) {
            return FULL;
        }
        said.add(n);
        return open().size();
    }

    public int may(int n) {
        if (out(n, 1, 60)) {
            return BAD;
        }
        return open().contains(n) ? 1 : 0;
    }

    public int said(int i) {
        if (i < 0) {
            return BAD;
        }
        return i >= said.size() ? find(2) : said.get(i);
    }

    public int undo(int i) {
        if (out(i, 0, said.size())) {
            return BAD;
        }
        int back = said.size() - i;
        said = new ArrayList<>(said.subList(0, i));
        return back;
    }

    public int turn() {
        asked = NONE;
        if (said.contains(1)) {
            asked = said.indexOf(1) % 2;
        } else if (over()) {
            asked = said.size() % 2;
        }
        return said.size() % 2;
    }

    public int keep(int k) {
        if (out(k, 0, 2)) {
            return BAD;
        }
        kept.set(k, new ArrayList<>(said));
        keptLaw[k] = law;
        return said.size();
    }

    public int on(int k) {
        if (out(k, 0, 2)) {
            return BAD;
        }
        if (kept.get(k) == null) {
            return find(1);
        }
        said = new ArrayList<>(kept.get(k));
        law = keptLaw[k];
        return said.size();
    }

    public int had(int v) {
        if (out(v, 1, 4000)) {
            return BAD;
        }
        int few = sums(law, said, v)[v];
        asked = few == 0 || law == 1 ? NONE : few;
        return few == 0 ? 0 : 1;
    }

    private static BigInteger countWays(List<Integer> numbers, int v) {
        BigInteger[] ways = new BigInteger[v + 1];
        Arrays.fill(ways, BigInteger.ZERO);
        ways[0] = BigInteger.ONE;
        for (int n : numbers) {
            BigInteger[] more = new BigInteger[v + 1];
            for (int sum = 0; sum <= v; sum++) {
                more[sum] = BigInteger.ZERO;
                for (int times = 0; times * n <= sum; times++) {
                    more[sum] = more[sum].add(ways[sum - times * n]);
                }
            }
            ways = more;
        }
        return ways[v];
    }

    public int ways(int v) {
        if (out(v, 1, 400)) {
            return BAD;
        }
        if (law != 0) {
            return STATE;
        }
        fraction(countWays(said, v), BigInteger.ONE);
        return 1;
    }

    private static long just(List<Integer> numbers, int first, int v, int k, Map<List<Integer>, Long> known) {
        if (first == numbers.size()) {
            return v == 0 && k == 0 ? 1 : 0;
        }
        List<Integer> key = List.of(first, v, k);
        Long answer = known.get(key);
        if (answer == null) {
            answer = 0L;
            int n = numbers.get(first);
            for (int times = 0; times <= k && times * n <= v; times++) {
                answer += just(numbers, first + 1, v - times * n, k - times, known);
            }
            known.put(key, answer);
        }
        return answer;
    }

    public int byJust(int v, int k) {
        if (out(v, 1, 400) || out(k, 1, 20)) {
            return BAD;
        }
        if (law != 0) {
            return STATE;
        }
        fraction(BigInteger.valueOf(just(said, 0, v, k, new HashMap<>())), BigInteger.ONE);
        return 1;
    }

    public int gaps(int r) {
        if (out(r, 0, 5)) {
            return BAD;
        }
        TreeSet<Integer> gaps = gaps(law, said);
        if (gaps == null) {
            return find(4);
        }
        setRow(r, new ArrayList<>(gaps));
        return gaps.size();
    }

    public int greatest() {
        TreeSet<Integer> gaps = gaps(law, said);
        if (gaps == null) {
            return find(4);
        }
        asked = gaps.size();
        return gaps.isEmpty() ? 0 : gaps.last();
    }

    public int rest(int m, int i) {
        if (out(m, 2, 60) || out(i, 0, m - 1)) {
            return BAD;
        }
        if (law != 0) {
            return STATE;
        }
        int[] sums = sums(law, said, FAR);
        for (int v = 1; v <= FAR; v++) {
            if (sums[v] > 0 && v % m == i) {
                return v;
            }
        }
        return NONE;
    }

    public int needed() {
        int bits = 0;
        for (int i = 0; i < said.size(); i++) {
            List<Integer> others = new ArrayList<>(said);
            others.remove(i);
            if (sums(law, others, 60)[said.get(i)] == 0) {
                bits += 1 << i;
            }
        }
        asked = Integer.bitCount(bits);
        return bits;
    }

    public int common() {
        for (int d = 60; d > 0 && !said.isEmpty(); d--) {
            int divisor = d;
            if (said.stream().allMatch(n -> n % divisor == 0)) {
                return d;
            }
        }
        return 0;
    }

    public int from() {
        TreeSet<Integer> gaps = gaps(law, said);
        if (gaps == null) {
            return NONE;
        }
        return gaps.isEmpty() ? 1 : gaps.last() + 1;
    }

    private boolean allFrom(List<Integer> numbers, int v) {
        TreeSet<Integer> gaps = gaps(law, numbers);
        return gaps != null && gaps.tailSet(v).isEmpty();
    }

    public int wish(int v) {
        if (out(v, 1, 4000)) {
            return BAD;
        }
        if (law != 0 || allFrom(said, v)) {
            return STATE;
        }
        List<Integer> all = new ArrayList<>();
        for (int n : open().tailSet(1, false)) {
            if (allFrom(with(said, n), v)) {
                all.add(n);
            }
        }
        if (all.isEmpty()) {
            return NONE;
        }
        asked = all.size();
        return all.get(0);
    }

    public int whose() {
        int refused = refusedSolving();
        if (refused != 0) {
            return refused;
        }
        asked = winning(solvable()).size();
        return solve(solvable())[0];
    }

    public int best(int r) {
        int refused = out(r, 0, 5) ? BAD : refusedSolving();
        if (refused != 0) {
            return refused;
        }
        setRow(r, winning(solvable()));
        return rows[r].length;
    }

    public int lasts() {
        int refused = refusedSolving();
        if (refused != 0) {
            return refused;
        }
        asked = solve(solvable())[2];
        return solve(solvable())[1];
    }

    public int share() {
        int refused = refusedSolving();
        if (refused != 0) {
            return refused;
        }
        int wins = winning(solvable()).size();
        fraction(BigInteger.valueOf(wins), BigInteger.valueOf(solvable().size()));
        return wins;
    }

    public int says(int p) {
        if (out(p, 0, kinds.size() - 1)) {
            return BAD;
        }
        return over() ? STATE : says(kinds.get(p), 0L);
    }

    public int play(int n, int seed) {
        if (out(n, 0, 12) || out(seed, 1, 2147483646)) {
            return BAD;
        }
        if (kinds.size() < 2) {
            return STATE;
        }
        BigInteger lot = BigInteger.valueOf(seed);
        int many = 0;
        for (; many < n && !over() && said.size() < 12; many++) {
            int kind = kinds.get(said.size() % 2);
            if (kind == 5) {
                lot = lot.multiply(BigInteger.valueOf(48271)).mod(BigInteger.valueOf(2147483647));
            }
            said.add(says(kind, lot.longValue()));
        }
        return many;
    }

    private static int leastPaid(HashSet<Integer> gaps) {
        for (int v = 1; v <= 60; v++) {
            for (int a = 1; a < v; a++) {
                if (gaps.contains(v) && !gaps.contains(a) && !gaps.contains(v - a)) {
                    return v;
                }
            }
        }
        return 0;
    }

    private HashSet<Integer> listed(int r) {
        HashSet<Integer> gaps = new HashSet<>();
        for (int v : rows[r]) {
            if (out(v, 1, 60) || !gaps.add(v)) {
                return null;
            }
        }
        return gaps;
    }

    public int list(int r) {
        if (out(r, 0, 5)) {
            return BAD;
        }
        if (rows[r] == null) {
            return find(1);
        }
        HashSet<Integer> gaps = listed(r);
        if (gaps == null) {
            return find(3);
        }
        asked = leastPaid(gaps);
        return asked == 0 ? 1 : 0;
    }

    public int makes(int r, int to) {
        if (out(r, 0, 5) || out(to, 0, 5)) {
            return BAD;
        }
        if (rows[r] == null) {
            return find(1);
        }
        HashSet<Integer> gaps = listed(r);
        if (gaps == null || leastPaid(gaps) != 0) {
            return find(3);
        }
        List<Integer> makers = new ArrayList<>();
        for (int v = 1; v <= 150; v++) {
            if (!gaps.contains(v) && sums(0, makers, v)[v] == 0) {
                makers.add(v);
            }
        }
        setRow(to, makers);
        return makers.size();
    }

    /** By number of GAPS and greatest GAP (18: in all), of all sets of numbers 1 .. 17. */
    private static int[][] countTree() {
        int[][] counts = new int[10][19];
        for (int bits = 0; bits < 1 << 17; bits++) {
            if (Integer.bitCount(bits) <= 9) {
                HashSet<Integer> gaps = new HashSet<>();
                int top = 0;
                for (int v = 1; v <= 17; v++) {
                    if ((bits >> v - 1 & 1) == 1) {
                        gaps.add(v);
                        top = v;
                    }
                }
                if (leastPaid(gaps) == 0) {
                    counts[gaps.size()][top]++;
                    counts[gaps.size()][18]++;
                }
            }
        }
        return counts;
    }

    public int tree(int n, int f) {
        if (out(n, 0, 9) || out(f, 0, 17)) {
            return BAD;
        }
        fraction(BigInteger.valueOf(TREE[n][18]), BigInteger.ONE);
        asked = TREE[n][f];
        return 1;
    }

    public int asked() {
        return asked;
    }

    public long upper() {
        return upper.longValueExact();
    }

    public long lower() {
        return lower.longValueExact();
    }

    public int count(int what) {
        int[] counts = {kinds.size(), said.size(), open().size(), 0, 0, 0, 0, 0};
        for (int p = 0; p < kinds.size(); p++) {
            counts[3] += isOf(p, 1) ? 1 : 0;
            counts[4] += isOf(p, 2) ? 1 : 0;
        }
        counts[5] = 3 - (int) kept.stream().filter(k -> k == null).count();
        counts[6] = (int) Arrays.stream(rows).filter(r -> r != null).count();
        counts[7] = (int) Arrays.stream(texts).filter(t -> t != null).count();
        return out(what, 0, 7) ? BAD : counts[what];
    }

    public int finding() {
        return finding;
    }

    public int findings(int f) {
        return out(f, 1, 5) ? BAD : findings[f];
    }

    public long digest() {
        List<Integer> all = new ArrayList<>();
        for (int what = 0; what < 8; what++) {
            all.add(count(what));
        }
        all.add(law);
        all.addAll(kinds);
        all.addAll(said);
        for (int k = 0; k < 3; k++) {
            all.add(kept.get(k) == null ? -1 : keptLaw[k]);
            all.addAll(kept.get(k) == null ? List.of() : kept.get(k));
        }
        for (int[] row : rows) {
            all.add(row == null ? -1 : row.length);
            for (int i = 0; row != null && i < row.length; i++) {
                all.add(row[i]);
            }
        }
        for (byte[] text : texts) {
            all.add(text == null ? -1 : text.length);
            for (int i = 0; text != null && i < text.length; i++) {
                all.add((int) text[i]);
            }
        }
        long h = 17;
        for (int v : all) {
            h = 31 * h + v;
        }
        return h;
    }
}
