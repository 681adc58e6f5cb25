import java.util.ArrayDeque;
import java.util.ArrayList;
import java.util.Arrays;
import java.util.List;

/**
 * The document read a second time, by other means than the class's: whole snapshots instead of deeds done again,
 * a search over the street's places, all orders, all rows of turns, all still and unstill years.
 */
final class Model {
    private static final int BAD = -1, FULL = -2, FINDING = -3, STATE = -4, NONE = -9;

    private record Stuff(int kind, int cell, int weight, int gate) { }

    private record Snapshot(List<Stuff> stuff, int flow, int level, int year) { }

    private final int[][] rows = new int[6][];
    private final byte[][] texts = new byte[4][];
    /** The canal as it was behind each deed; the last one is as it is. */
    private List<Snapshot> history = new ArrayList<>();
    private final List<List<Snapshot>> kept = new ArrayList<>(Arrays.asList(null, null, null));
    private int asked = 0;
    private long upper = 0;
    private long lower = 1;
    private int finding = 0;
    private final int[] findings = new int[6];

    Model() {
        history.add(new Snapshot(List.of(), 0, 0, 0));
    }

    private Snapshot now() {
        return history.get(history.size() - 1);
    }

    private int deeds() {
        return history.size() - 1;
    }

    private Stuff stuff(int i) {
        return now().stuff().get(i);
    }

    private int things() {
        return now().stuff().size();
    }

    private boolean noThing(int i) {
        return i < 0 || i >= things();
    }

    private static boolean out(int v, int low, int high) {
        return v < low || v > high;
    }

    private int find(int f) {
        finding = f;
        findings[f]++;
        return FINDING;
    }

    private int tell(int v) {
        asked = v;
        return 1;
    }

    int row(int r, int n) {
        if (out(r, 0, 5) || n > 40) return BAD;
        if (n < 0) return find(5);
        rows[r] = new int[n];
        return n;
    }

    int lay(int r, int i, int v) {
        if (out(r, 0, 5)) return BAD;
        if (rows[r] == null) return find(1);
        if (out(i, 0, rows[r].length - 1)) return find(2);
        tell(rows[r][i]);
        rows[r][i] = v;
        return 1;
    }

    int at(int r, int i) {
        if (out(r, 0, 5)) return BAD;
        if (rows[r] == null) return find(1);
        if (out(i, 0, rows[r].length - 1)) return find(2);
        return tell(rows[r][i]);
    }

    int tear(int r) {
        if (out(r, 0, 5)) return BAD;
        if (rows[r] == null) return find(1);
        rows[r] = null;
        return 1;
    }

    int copy(int r, int i, int to, int j, int n) {
        if (out(r, 0, 5) || out(to, 0, 5)) return BAD;
        if (n < 0) return find(5);
        if (rows[r] == null || rows[to] == null) return find(1);
        if (i < 0 || j < 0 || (long) i + n > rows[r].length || (long) j + n > rows[to].length) return find(2);
        int[] taken = new int[n];
        for (int k = 0; k < n; k++) taken[k] = rows[r][i + k];
        for (int k = 0; k < n; k++) rows[to][j + k] = taken[k];
        return 1;
    }

    int mean(int r) {
        if (out(r, 0, 5)) return BAD;
        if (rows[r] == null) return find(1);
        if (rows[r].length == 0) return find(4);
        java.math.BigInteger sum = java.math.BigInteger.ZERO;
        for (int v : rows[r]) sum = sum.add(java.math.BigInteger.valueOf(v));
        return tell(sum.divide(java.math.BigInteger.valueOf(rows[r].length)).intValueExact());
    }

    int text(int t, int n) {
        if (out(t, 0, 3) || n > 60) return BAD;
        if (n < 0) return find(5);
        texts[t] = new byte[n];
        Arrays.fill(texts[t], (byte) 32);
        return n;
    }

    int put(int t, int i, int v) {
        if (out(t, 0, 3)) return BAD;
        if (texts[t] == null) return find(1);
        if (out(i, 0, texts[t].length - 1)) return find(2);
        int was = texts[t][i];
        texts[t][i] = (byte) v;
        return was + 1000;
    }

    private static String signs(byte[] text) {
        StringBuilder s = new StringBuilder();
        for (byte b : text) s.append((char) (b & 255));
        return s.toString();
    }

    private static final String GOOD = " *f[0-9][0-9]( *[trsbdc][0-7][0-9][0-7]){1,6} *";

    /** The longest beginning that some good text goes on from: what comes behind it is the fault. */
    private static int faultOf(String s) {
        if (s.matches(GOOD)) return NONE;
        String[] ends = {"f00t000", "00t000", "0t000", "t000", "000", "00", "0", ""};
        for (int n = s.length(); n >= 0; n--) {
            for (String end : ends) {
                if ((s.substring(0, n) + end).matches(GOOD)) return n;
            }
        }
        return 0;
    }

    int fault(int t) {
        if (out(t, 0, 3)) return BAD;
        if (texts[t] == null) return find(1);
        return faultOf(signs(texts[t]));
    }

    int canal(int t) {
        if (out(t, 0, 3)) return BAD;
        if (texts[t] == null) return find(1);
        String s = signs(texts[t]);
        if (faultOf(s) != NONE) return STATE;
        String dense = s.replace(" ", "");
        List<Stuff> all = new ArrayList<>();
        for (int p = 3; p < dense.length(); p += 4) {
            all.add(new Stuff("trsbdc".indexOf(dense.charAt(p)), dense.charAt(p + 1) - '0',
                dense.charAt(p + 2) - '0', dense.charAt(p + 3) - '0'));
        }
        history = new ArrayList<>();
        history.add(new Snapshot(all, dense.charAt(1) - '0', dense.charAt(2) - '0', 0));
        for (int k = 0; k < 3; k++) kept.set(k, null);
        return all.size();
    }

    private int driftOf(Stuff s, int year) {
        if (now().level() == 0) return 0;
        int asThing = now().flow() > s.weight() ? 1 : 0;
        int asRing = asThing + 1;
        return new int[] {asThing, asRing, 0, year % 2 == 0 ? asThing : 0, -asRing, year % 2}[s.kind()];
    }

    private Stuff drifted(Stuff s, int year) {
        int to = s.cell() + driftOf(s, year);
        return new Stuff(s.kind(), to < 0 ? 0 : to > 7 ? 7 : to, s.weight(), s.gate());
    }

    private Stuff in(Stuff s, int years) {
        Stuff t = s;
        for (int k = 0; k < years; k++) t = drifted(t, now().year() + k);
        return t;
    }

    private boolean taken(int i) {
        return stuff(i).cell() == NONE;
    }

    private static Stuff lying(Stuff s, int cell) {
        return new Stuff(s.kind(), cell, s.weight(), s.gate());
    }

    private int factOf(int i, int what) {
        Stuff s = stuff(i);
        return new int[] {s.kind(), s.cell(), s.weight(), s.gate(), driftOf(s, now().year())}[what];
    }

    int thing(int i, int what) {
        if (noThing(i) || out(what, 0, 4)) return BAD;
        return tell(factOf(i, what));
    }

    private static boolean is(Stuff s, int kind) {
        int[] parent = {-1, 0, 0, 0, 1, 2};
        for (int k = s.kind(); k >= 0; k = parent[k]) {
            if (k == kind) return true;
        }
        return false;
    }

    private int many(int kind) {
        return (int) now().stuff().stream().filter(s -> is(s, kind)).count();
    }

    int mark(int i, int kind) {
        if (noThing(i) || out(kind, 1, 5)) return BAD;
        Stuff s = stuff(i);
        if (!is(s, kind)) return find(3);
        if (kind == 1) {
            int lack = 0;
            while (now().flow() + lack <= s.weight()) lack++;
            return lack;
        }
        if (kind == 3) return now().year() % 2 == 0 ? 0 : 1;
        if (kind == 4) return many(1);
        if (taken(i)) return 0;
        if (kind == 5) return 7 - s.cell();
        return (int) now().stuff().stream().filter(o -> o.cell() == s.cell()).count() - 1;
    }

    int cell(int c) {
        if (out(c, 0, 7)) return BAD;
        int bits = 0;
        for (int i = 0; i < things(); i++) if (stuff(i).cell() == c) bits += 1 << i;
        return bits;
    }

    private void then(List<Stuff> all, int level, int year) {
        history.add(new Snapshot(all, now().flow(), level, year));
    }

    private void doYear() {
        List<Stuff> all = new ArrayList<>();
        for (int i = 0; i < things(); i++) all.add(taken(i) ? stuff(i) : drifted(stuff(i), now().year()));
        then(all, now().level(), now().year() + 1);
    }

    private void doPaddle(int fill) {
        then(now().stuff(), turned(now().level(), fill), now().year());
    }

    private static int turned(int level, int fill) {
        return fill == 1 ? Math.min(9, level + 3) : Math.max(0, level - 2);
    }

    private void doCell(int i, int cell) {
        List<Stuff> all = new ArrayList<>(now().stuff());
        all.set(i, lying(all.get(i), cell));
        then(all, now().level(), now().year());
    }

    int year() {
        if (things() == 0) return STATE;
        if (deeds() == 40) return FULL;
        doYear();
        return now().year();
    }

    int paddle(int fill) {
        if (out(fill, 0, 1)) return BAD;
        if (things() == 0) return STATE;
        if (deeds() == 40) return FULL;
        doPaddle(fill);
        return now().level();
    }

    int move(int i, int by) {
        if (noThing(i) || (by != 1 && by != -1)) return BAD;
        if (taken(i) || out(stuff(i).cell() + by, 0, 7)) return STATE;
        if (deeds() == 40) return FULL;
        doCell(i, stuff(i).cell() + by);
        return stuff(i).cell();
    }

    int take(int i) {
        if (noThing(i)) return BAD;
        if (taken(i) || now().level() > 0) return STATE;
        if (deeds() == 40) return FULL;
        int far = Math.abs(stuff(i).cell() - stuff(i).gate());
        doCell(i, NONE);
        return far;
    }

    int undo(int n) {
        if (out(n, 0, deeds())) return BAD;
        int many = deeds() - n;
        history = new ArrayList<>(history.subList(0, n + 1));
        return many;
    }

    int keep(int k) {
        if (out(k, 0, 2)) return BAD;
        if (things() == 0) return STATE;
        kept.set(k, List.copyOf(history));
        return deeds();
    }

    int on(int k) {
        if (out(k, 0, 2)) return BAD;
        if (kept.get(k) == null) return find(1);
        history = new ArrayList<>(kept.get(k));
        return deeds();
    }

    int lies(int i, int n) {
        if (noThing(i) || out(n, 0, 60)) return BAD;
        if (taken(i)) return STATE;
        return in(stuff(i), n).cell();
    }

    int three() {
        if (things() == 0) return STATE;
        for (int n = 0; n <= 60; n++) {
            int[] lie = new int[8];
            for (int i = 0; i < things(); i++) if (!taken(i)) lie[in(stuff(i), n).cell()]++;
            for (int c = 0; c < 8; c++) {
                if (lie[c] >= 3) {
                    asked = c;
                    return n;
                }
            }
        }
        return NONE;
    }

    private int fewest(Stuff s, int c, int n) {
        for (int m = 0; m < 8; m++) {
            for (int by : new int[] {-m, m}) {
                if (!out(s.cell() + by, 0, 7) && in(lying(s, s.cell() + by), n).cell() == c) return m;
            }
        }
        return NONE;
    }

    int moves(int i, int c, int n) {
        if (noThing(i) || out(c, 0, 7) || out(n, 0, 20)) return BAD;
        if (taken(i)) return STATE;
        return fewest(stuff(i), c, n);
    }

    int owned(int n) {
        if (out(n, 0, 20)) return BAD;
        if (things() == 0) return STATE;
        int sum = 0;
        for (Stuff s : now().stuff()) {
            if (s.cell() == NONE) continue;
            int m = fewest(s, s.gate(), n);
            if (m == NONE) return NONE;
            sum += m;
        }
        return sum;
    }

    int thrown(int i, int c, int n) {
        if (noThing(i) || out(c, 0, 7) || out(n, 0, 20)) return BAD;
        int bits = 0;
        for (int from = 0; from < 8; from++) if (in(lying(stuff(i), from), n).cell() == c) bits |= 1 << from;
        return bits;
    }

    /** All orders of the numbers, the first ones first. */
    private static void orders(List<Integer> begun, List<Integer> left, List<List<Integer>> all) {
        if (left.isEmpty()) all.add(begun);
        for (Integer next : left) {
            List<Integer> more = new ArrayList<>(begun);
            more.add(next);
            List<Integer> fewer = new ArrayList<>(left);
            fewer.remove(next);
            orders(more, fewer, all);
        }
    }

    int stand(int r) {
        if (out(r, 0, 5)) return BAD;
        if (things() == 0) return STATE;
        List<Integer> there = new ArrayList<>();
        for (int i = 0; i < things(); i++) if (!taken(i)) there.add(i);
        List<List<Integer>> all = new ArrayList<>();
        orders(List.of(), there, all);
        int least = Integer.MAX_VALUE;
        for (List<Integer> order : all) {
            int sum = 0;
            for (int k = 0; k < order.size(); k++) {
                sum += Math.abs(stuff(order.get(k)).gate() - stuff(there.get(k)).cell());
            }
            if (sum < least) {
                least = sum;
                rows[r] = order.stream().mapToInt(v -> v).toArray();
            }
        }
        return least;
    }

    int level(int v) {
        if (out(v, 0, 9)) return BAD;
        if (things() == 0) return STATE;
        for (int n = 0; n <= 10; n++) {
            // The first turn counts most, so the rows of n turns rise as numbers read from the first turn on.
            for (int reading = 0; reading < 1 << n; reading++) {
                int level = now().level();
                int bits = 0;
                for (int k = 0; k < n; k++) {
                    int fill = reading >> (n - 1 - k) & 1;
                    bits |= fill << k;
                    level = turned(level, fill);
                }
                if (level == v) {
                    asked = bits;
                    return n;
                }
            }
        }
        return NONE;
    }

    private int steps(int i, int without) {
        boolean[][] bar = new boolean[2][8];
        for (int k = 0; k < things(); k++) {
            if (k != i && k != without && !taken(k)) bar[k % 2][stuff(k).cell()] = true;
        }
        int[][] far = new int[2][8];
        for (int[] bank : far) Arrays.fill(bank, NONE);
        ArrayDeque<int[]> next = new ArrayDeque<>();
        next.add(new int[] {i % 2, stuff(i).cell()});
        far[i % 2][stuff(i).cell()] = 0;
        while (!next.isEmpty()) {
            int[] p = next.poll();
            int[][] beside = {{p[0], p[1] - 1}, {p[0], p[1] + 1}, {1 - p[0], p[1]}};
            for (int[] q : beside) {
                if (out(q[1], 0, 7) || (q[0] != p[0] && p[1] != 0 && p[1] != 7)) continue;
                if (bar[q[0]][q[1]] || far[q[0]][q[1]] != NONE) continue;
                far[q[0]][q[1]] = far[p[0]][p[1]] + 1;
                next.add(q);
            }
        }
        return far[0][stuff(i).gate()];
    }

    int home(int i) {
        if (noThing(i)) return BAD;
        return taken(i) ? STATE : steps(i, -1);
    }

    int stops(int i) {
        if (noThing(i)) return BAD;
        if (taken(i)) return STATE;
        int bits = 0;
        for (int k = 0; k < things(); k++) {
            if (k != i && steps(i, -1) == NONE && steps(i, k) != NONE) bits |= 1 << k;
        }
        return bits;
    }

    private int pairsFault(int r) {
        if (rows[r] == null) return 1;
        if (rows[r].length % 2 == 1 || rows[r].length > 12) return 5;
        for (int k = 0; k < rows[r].length; k++) {
            if (out(rows[r][k], 0, k % 2 == 0 ? 20 : 7)) return 3;
        }
        return 0;
    }

    private boolean fits(Stuff s, int r) {
        for (int k = 0; k < rows[r].length; k += 2) {
            if (in(s, rows[r][k]).cell() != rows[r][k + 1]) return false;
        }
        return true;
    }

    int starts(int i, int r) {
        if (noThing(i) || out(r, 0, 5)) return BAD;
        if (pairsFault(r) != 0) return find(pairsFault(r));
        int bits = 0;
        for (int c = 0; c < 8; c++) if (fits(lying(stuff(i), c), r)) bits |= 1 << c;
        return bits;
    }

    int weights(int i, int r) {
        if (noThing(i) || out(r, 0, 5)) return BAD;
        if (pairsFault(r) != 0) return find(pairsFault(r));
        if (taken(i)) return STATE;
        int bits = 0;
        Stuff s = stuff(i);
        for (int w = 0; w < 10; w++) if (fits(new Stuff(s.kind(), s.cell(), w, s.gate()), r)) bits |= 1 << w;
        return bits;
    }

    int kinds(int i, int r) {
        if (noThing(i) || out(r, 0, 5)) return BAD;
        if (pairsFault(r) != 0) return find(pairsFault(r));
        if (taken(i)) return STATE;
        int bits = 0;
        Stuff s = stuff(i);
        for (int k = 0; k < 6; k++) if (fits(new Stuff(k, s.cell(), s.weight(), s.gate()), r)) bits |= 1 << k;
        return bits;
    }

    int night(int i, int gate, int other, int n) {
        if (noThing(i) || out(gate, 0, 7) || out(other, 0, 7) || gate == other || out(n, 0, 3)) return BAD;
        if (taken(i)) return STATE;
        int[] worth = new int[8];
        for (int c = 0; c < 8; c++) worth[c] = Math.abs(c - gate) - Math.abs(c - other);
        for (int turn = 2 * n - 1; turn >= 0; turn--) {
            int[] ahead = new int[8];
            for (int c = 0; c < 8; c++) {
                int on = worth[Math.min(7, c + 1)];
                int back = worth[Math.max(0, c - 1)];
                ahead[c] = turn % 2 == 0 ? Math.max(worth[c], Math.max(on, back))
                    : Math.min(worth[c], Math.min(on, back));
            }
            worth = ahead;
        }
        return tell(worth[stuff(i).cell()]);
    }

    /** The weight of each cell in n years, of 12 to the power of n. */
    private long[] spread(int i, int n, int p) {
        long[] cells = new long[8];
        for (int unstill = 0; unstill < 1 << n; unstill++) {
            long share = 1;
            Stuff s = stuff(i);
            for (int k = 0; k < n; k++) {
                boolean drifts = (unstill >> k & 1) == 1;
                share *= drifts ? 12 - p : p;
                if (drifts) s = drifted(s, now().year() + k);
            }
            cells[s.cell()] += share;
        }
        return cells;
    }

    private int share(long up, int n) {
        long low = 1;
        for (int k = 0; k < n; k++) low *= 12;
        for (long f : new long[] {2, 3}) {
            while (up % f == 0 && low % f == 0) {
                up /= f;
                low /= f;
            }
        }
        upper = up;
        lower = low;
        return 1;
    }

    int odds(int i, int c, int n, int p) {
        if (noThing(i) || out(c, 0, 7) || out(n, 0, 6) || out(p, 0, 12)) return BAD;
        if (taken(i)) return STATE;
        return share(spread(i, n, p)[c], n);
    }

    int mid(int i, int n, int p) {
        if (noThing(i) || out(n, 0, 6) || out(p, 0, 12)) return BAD;
        if (taken(i)) return STATE;
        long sum = 0;
        long[] cells = spread(i, n, p);
        for (int c = 0; c < 8; c++) sum += c * cells[c];
        return share(sum, n);
    }

    int lots(int n, int seed) {
        if (out(n, 1, 20) || out(seed, 1, 2147483646)) return BAD;
        if (things() == 0) return STATE;
        if (deeds() + n > 40) return FULL;
        long lot = seed;
        for (int k = 0; k < n; k++) {
            lot = 48271 * lot % 2147483647;
            int i = (int) (lot % things());
            long what = lot / 8 % 4;
            if (what == 0) doPaddle(0);
            else if (what == 3) doYear();
            else if (what == 1 && !taken(i) && stuff(i).cell() < 7) doCell(i, stuff(i).cell() + 1);
            else if (what == 2 && !taken(i) && now().level() == 0) doCell(i, NONE);
            else doPaddle(1);
        }
        return now().level();
    }

    int asked() {
        return asked;
    }

    long upper() {
        return upper;
    }

    long lower() {
        return lower;
    }

    int finding() {
        return finding;
    }

    int findings(int f) {
        return out(f, 1, 5) ? BAD : findings[f];
    }

    int count(int what) {
        if (out(what, 0, 10)) return BAD;
        int takenBits = 0;
        for (int i = 0; i < things(); i++) if (taken(i)) takenBits |= 1 << i;
        int present = 0;
        for (int[] row : rows) if (row != null) present++;
        int written = 0;
        for (byte[] text : texts) if (text != null) written++;
        int held = 0;
        for (List<Snapshot> one : kept) if (one != null) held++;
        return new int[] {things(), now().year(), deeds(), now().level(), now().flow(), takenBits, many(1), many(2),
            present, written, held}[what];
    }

    long digest() {
        List<Integer> all = new ArrayList<>();
        for (int what = 0; what <= 10; what++) all.add(count(what));
        for (int i = 0; i < things(); i++) for (int what = 0; what < 5; what++) all.add(factOf(i, what));
        for (List<Snapshot> one : kept) all.add(one == null ? -1 : one.size() - 1);
        for (int[] row : rows) {
            all.add(row == null ? -1 : row.length);
            if (row != null) for (int v : row) all.add(v);
        }
        for (byte[] text : texts) {
            all.add(text == null ? -1 : text.length);
            if (text != null) for (byte v : text) all.add((int) v);
        }
        long h = 17;
        for (int v : all) h = 31 * h + v;
        return h;
    }
}
