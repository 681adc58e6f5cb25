import java.util.Arrays;

/**
 * A canal between two locks, what was thrown into it, and who must stand by it when the water is let down.
 * Every call answers with a number; a refusal is one of the negative constants, never an exception.
 */
public final class CanalRings {
    public static final int BAD = -1, FULL = -2, FINDING = -3, STATE = -4, SPENT = -6, NONE = -9;

    private static final int NOTHING = 1, BEYOND = 2, UNLIKE = 3, NOUGHT = 4, SIZE = 5;
    private static final int MISSING = -1;
    private static final int ROWS = 6, ROW_MOST = 40;
    private static final int TEXTS = 4, TEXT_MOST = 60, BLANK = 32;
    private static final int KEPT = 3, DEEDS_MOST = 40;
    private static final int CELLS = 8, THINGS_MOST = 6, LEVEL_MOST = 9, WEIGHTS = 10;
    private static final int THING = 0, RING = 1, SAFE = 2, BICYCLE = 3, DOLL = 4, CHAIR = 5, KINDS = 6;
    private static final int YEAR = 0, DRAW = 1, FILL = 2, MOVE_ON = 3, MOVE_BACK = 4, TAKE = 5;
    private static final int COUNTS = 11, FACTS = 5;
    private static final long LOT_FACTOR = 48271L, LOT_MODULUS = 2147483647L;

    // All rows, texts and deeds have their room from the start, so that no later call makes objects.
    private final int[][] rows = new int[ROWS][ROW_MOST];
    private final int[] rowSizes = new int[ROWS];
    private final byte[][] texts = new byte[TEXTS][TEXT_MOST];
    private final int[] textSizes = new int[TEXTS];
    private final int[][] keptDeeds = new int[KEPT][DEEDS_MOST];
    private final int[] keptSizes = new int[KEPT];
    private final Reader reader = new Reader();
    private final Canal canal = new Canal();
    private final Crowd crowd = new Crowd();
    private final Paddles paddles = new Paddles();
    private final int[] findingCounts = new int[SIZE + 1];
    private int lastFinding = 0;
    private int lastAsked = 0;
    private long lastUpper = 0L;
    private long lastLower = 1L;

    public CanalRings() {
        Arrays.fill(rowSizes, MISSING);
        Arrays.fill(textSizes, MISSING);
        Arrays.fill(keptSizes, MISSING);
    }

    // ---- 1 rows, texts, canals

    public int row(int r, int n) {
        if (!isRow(r) || n > ROW_MOST) return BAD;
        if (n < 0) return found(SIZE);
        Arrays.fill(rows[r], 0);
        rowSizes[r] = n;
        return n;
    }

    public int lay(int r, int i, int v) {
        if (!isRow(r)) return BAD;
        if (rowSizes[r] == MISSING) return found(NOTHING);
        if (i < 0 || i >= rowSizes[r]) return found(BEYOND);
        int before = rows[r][i];
        rows[r][i] = v;
        return tell(before);
    }

    public int at(int r, int i) {
        if (!isRow(r)) return BAD;
        if (rowSizes[r] == MISSING) return found(NOTHING);
        if (i < 0 || i >= rowSizes[r]) return found(BEYOND);
        return tell(rows[r][i]);
    }

    public int tear(int r) {
        if (!isRow(r)) return BAD;
        if (rowSizes[r] == MISSING) return found(NOTHING);
        rowSizes[r] = MISSING;
        return 1;
    }

    public int copy(int r, int i, int to, int j, int n) {
        if (!isRow(r) || !isRow(to)) return BAD;
        if (n < 0) return found(SIZE);
        if (rowSizes[r] == MISSING || rowSizes[to] == MISSING) return found(NOTHING);
        if (!hasSpan(rowSizes[r], i, n) || !hasSpan(rowSizes[to], j, n)) return found(BEYOND);
        System.arraycopy(rows[r], i, rows[to], j, n);
        return 1;
    }

    public int mean(int r) {
        if (!isRow(r)) return BAD;
        int size = rowSizes[r];
        if (size == MISSING) return found(NOTHING);
        if (size == 0) return found(NOUGHT);
        long sum = 0L;
        for (int i = 0; i < size; i++) sum += rows[r][i];
        return tell((int) (sum / size));
    }

    public int text(int t, int n) {
        if (!isText(t) || n > TEXT_MOST) return BAD;
        if (n < 0) return found(SIZE);
        Arrays.fill(texts[t], (byte) BLANK);
        textSizes[t] = n;
        return n;
    }

    public int put(int t, int i, int v) {
        if (!isText(t)) return BAD;
        if (textSizes[t] == MISSING) return found(NOTHING);
        if (i < 0 || i >= textSizes[t]) return found(BEYOND);
        int before = texts[t][i];
        texts[t][i] = (byte) v;
        return before + 1000;
    }

    public int fault(int t) {
        if (!isText(t)) return BAD;
        if (textSizes[t] == MISSING) return found(NOTHING);
        return reader.firstFault(texts[t], textSizes[t]);
    }

    public int canal(int t) {
        if (!isText(t)) return BAD;
        if (textSizes[t] == MISSING) return found(NOTHING);
        if (reader.firstFault(texts[t], textSizes[t]) != NONE) return STATE;
        canal.fillFrom(reader);
        Arrays.fill(keptSizes, MISSING);
        return canal.things;
    }

    public int thing(int i, int what) {
        if (!canal.has(i) || what < 0 || what >= FACTS) return BAD;
        return tell(canal.fact(i, what));
    }

    public int mark(int i, int kind) {
        if (!canal.has(i) || kind <= THING || kind >= KINDS) return BAD;
        if (!isOfKind(canal.kinds[i], kind)) return found(UNLIKE);
        return canal.markAs(i, kind);
    }

    public int cell(int c) {
        if (!isCell(c)) return BAD;
        return canal.lyingIn(c);
    }

    // ---- 2 deeds

    public int year() {
        if (canal.things == 0) return STATE;
        if (canal.deeds >= DEEDS_MOST) return FULL;
        canal.perform(YEAR, 0);
        return canal.year;
    }

    public int paddle(int fill) {
        if (fill != 0 && fill != 1) return BAD;
        if (canal.things == 0) return STATE;
        if (canal.deeds >= DEEDS_MOST) return FULL;
        canal.perform(fill == 1 ? FILL : DRAW, 0);
        return canal.level;
    }

    public int move(int i, int by) {
        if (!canal.has(i) || (by != 1 && by != -1)) return BAD;
        if (!canal.canMove(i, by)) return STATE;
        if (canal.deeds >= DEEDS_MOST) return FULL;
        canal.perform(by == 1 ? MOVE_ON : MOVE_BACK, i);
        return canal.cells[i];
    }

    public int take(int i) {
        if (!canal.has(i)) return BAD;
        if (!canal.canTake(i)) return STATE;
        if (canal.deeds >= DEEDS_MOST) return FULL;
        int way = Math.abs(canal.cells[i] - canal.gates[i]);
        canal.perform(TAKE, i);
        return way;
    }

    public int undo(int n) {
        if (n < 0 || n > canal.deeds) return BAD;
        int undone = canal.deeds - n;
        canal.replay(n);
        return undone;
    }

    public int keep(int k) {
        if (!isKeptPlace(k)) return BAD;
        if (canal.things == 0) return STATE;
        System.arraycopy(canal.deedRow, 0, keptDeeds[k], 0, DEEDS_MOST);
        keptSizes[k] = canal.deeds;
        return canal.deeds;
    }

    public int on(int k) {
        if (!isKeptPlace(k)) return BAD;
        if (keptSizes[k] == MISSING) return found(NOTHING);
        // Kept canals go with a new one, so all of them began as this one did: their deeds tell the rest.
        System.arraycopy(keptDeeds[k], 0, canal.deedRow, 0, DEEDS_MOST);
        canal.replay(keptSizes[k]);
        return canal.deeds;
    }

    // ---- 3 where it will lie

    public int lies(int i, int n) {
        if (!canal.has(i) || n < 0 || n > 60) return BAD;
        if (canal.isTaken(i)) return STATE;
        return canal.cellAfter(i, canal.cells[i], n);
    }

    public int three() {
        if (canal.things == 0) return STATE;
        for (int n = 0; n <= 60; n++) {
            int crowded = canal.crowdedCell(n);
            if (crowded != NONE) {
                tell(crowded);
                return n;
            }
        }
        return NONE;
    }

    public int moves(int i, int c, int n) {
        if (!canal.has(i) || !isCell(c) || n < 0 || n > 20) return BAD;
        if (canal.isTaken(i)) return STATE;
        return canal.fewestMoves(i, c, n);
    }

    public int owned(int n) {
        if (n < 0 || n > 20) return BAD;
        if (canal.things == 0) return STATE;
        int sum = 0;
        for (int i = 0; i < canal.things; i++) {
            if (canal.isTaken(i)) continue;
            int fewest = canal.fewestMoves(i, canal.gates[i], n);
            if (fewest == NONE) return NONE;
            sum += fewest;
        }
        return sum;
    }

    public int thrown(int i, int c, int n) {
        if (!canal.has(i) || !isCell(c) || n < 0 || n > 20) return BAD;
        int from = 0;
        for (int start = 0; start < CELLS; start++) {
            if (canal.cellAfter(i, start, n) == c) from |= 1 << start;
        }
        return from;
    }

    // ---- 4 who stands by which, the paddles

    public int stand(int r) {
        if (!isRow(r)) return BAD;
        if (canal.things == 0) return STATE;
        int least = crowd.leastSum(canal);
        Arrays.fill(rows[r], 0);
        rowSizes[r] = 0;
        for (int i = 0; i < canal.things; i++) {
            if (canal.isTaken(i)) continue;
            rows[r][rowSizes[r]] = crowd.best[i];
            rowSizes[r]++;
        }
        return least;
    }

    public int level(int v) {
        if (v < 0 || v > LEVEL_MOST) return BAD;
        if (canal.things == 0) return STATE;
        paddles.countTurnsTo(v);
        int fewest = paddles.turns[canal.level];
        if (fewest > LEVEL_MOST) return NONE;
        tell(paddles.firstRowFrom(canal.level));
        return fewest;
    }

    // ---- 5 ways home

    public int home(int i) {
        if (!canal.has(i)) return BAD;
        if (canal.isTaken(i)) return STATE;
        return stepsHome(i, NONE);
    }

    public int stops(int i) {
        if (!canal.has(i)) return BAD;
        if (canal.isTaken(i)) return STATE;
        if (stepsHome(i, NONE) != NONE) return 0;
        int barring = 0;
        for (int other = 0; other < canal.things; other++) {
            if (other != i && !canal.isTaken(other) && stepsHome(i, other) != NONE) barring |= 1 << other;
        }
        return barring;
    }

    // ---- 6 by where it lay

    public int starts(int i, int r) {
        if (!canal.has(i) || !isRow(r)) return BAD;
        int fault = pairsFinding(r);
        if (fault != 0) return found(fault);
        int possible = 0;
        for (int start = 0; start < CELLS; start++) {
            if (fitsPairs(canal.kinds[i], canal.weights[i], start, r)) possible |= 1 << start;
        }
        return possible;
    }

    public int weights(int i, int r) {
        if (!canal.has(i) || !isRow(r)) return BAD;
        int fault = pairsFinding(r);
        if (fault != 0) return found(fault);
        if (canal.isTaken(i)) return STATE;
        int possible = 0;
        for (int weight = 0; weight < WEIGHTS; weight++) {
            if (fitsPairs(canal.kinds[i], weight, canal.cells[i], r)) possible |= 1 << weight;
        }
        return possible;
    }

    public int kinds(int i, int r) {
        if (!canal.has(i) || !isRow(r)) return BAD;
        int fault = pairsFinding(r);
        if (fault != 0) return found(fault);
        if (canal.isTaken(i)) return STATE;
        int possible = 0;
        for (int kind = 0; kind < KINDS; kind++) {
            if (fitsPairs(kind, canal.weights[i], canal.cells[i], r)) possible |= 1 << kind;
        }
        return possible;
    }

    // ---- 7 by turns

    public int night(int i, int gate, int other, int n) {
        if (!canal.has(i) || !isCell(gate) || !isCell(other) || gate == other || n < 0 || n > 3) return BAD;
        if (canal.isTaken(i)) return STATE;
        return tell(outcome(canal.cells[i], gate, other, 2 * n));
    }

    // ---- 8 chances, lots

    public int odds(int i, int c, int n, int p) {
        if (!isCell(c) || !isChance(i, n, p)) return BAD;
        if (canal.isTaken(i)) return STATE;
        return tellRatio(canal.weighWays(i, canal.cells[i], n, p, c, canal.year), twelveTimes(n));
    }

    public int mid(int i, int n, int p) {
        if (!isChance(i, n, p)) return BAD;
        if (canal.isTaken(i)) return STATE;
        return tellRatio(canal.weighWays(i, canal.cells[i], n, p, NONE, canal.year), twelveTimes(n));
    }

    public int lots(int n, int seed) {
        if (n < 1 || n > 20 || seed < 1 || seed >= LOT_MODULUS) return BAD;
        if (canal.things == 0) return STATE;
        if (canal.deeds + n > DEEDS_MOST) return FULL;
        long lot = seed;
        for (int k = 0; k < n; k++) {
            lot = lot * LOT_FACTOR % LOT_MODULUS;
            canal.performLot(lot);
        }
        return canal.level;
    }

    // ---- 9 what is told

    public int asked() {
        return lastAsked;
    }

    public long upper() {
        return lastUpper;
    }

    public long lower() {
        return lastLower;
    }

    public int count(int what) {
        switch (what) {
            case 0: return canal.things;
            case 1: return canal.year;
            case 2: return canal.deeds;
            case 3: return canal.level;
            case 4: return canal.flow;
            case 5: return canal.takenBits();
            case 6: return canal.countOfKind(RING);
            case 7: return canal.countOfKind(SAFE);
            case 8: return presentIn(rowSizes);
            case 9: return presentIn(textSizes);
            case 10: return presentIn(keptSizes);
            default: return BAD;
        }
    }

    public int finding() {
        return lastFinding;
    }

    public int findings(int f) {
        if (f < NOTHING || f > SIZE) return BAD;
        return findingCounts[f];
    }

    public long digest() {
        long h = 17L;
        for (int what = 0; what < COUNTS; what++) h = 31L * h + count(what);
        for (int i = 0; i < canal.things; i++) {
            for (int what = 0; what < FACTS; what++) h = 31L * h + canal.fact(i, what);
        }
        for (int k = 0; k < KEPT; k++) h = 31L * h + keptSizes[k];
        for (int r = 0; r < ROWS; r++) {
            h = 31L * h + rowSizes[r];
            for (int i = 0; i < rowSizes[r]; i++) h = 31L * h + rows[r][i];
        }
        for (int t = 0; t < TEXTS; t++) {
            h = 31L * h + textSizes[t];
            for (int i = 0; i < textSizes[t]; i++) h = 31L * h + texts[t][i];
        }
        return h;
    }

    // ---- what the calls share

    private int found(int finding) {
        lastFinding = finding;
        findingCounts[finding]++;
        return FINDING;
    }

    private int tell(int answer) {
        lastAsked = answer;
        return 1;
    }

    private int tellRatio(long up, long low) {
        long divisor = greatestDivisor(up, low);
        lastUpper = divisor > 0L ? up / divisor : up;
        lastLower = divisor > 0L ? low / divisor : low;
        return 1;
    }

    /** The numbers stay below 2 to the power of 31, so that Euclid needs fewer than 64 rounds. */
    private static long greatestDivisor(long a, long b) {
        long x = a;
        long y = b;
        for (int round = 0; round < 64 && y != 0L; round++) {
            long rest = x % y;
            x = y;
            y = rest;
        }
        return x;
    }

    private static long twelveTimes(int n) {
        long product = 1L;
        for (int k = 0; k < n; k++) product *= 12L;
        return product;
    }

    private static boolean isRow(int r) {
        return r >= 0 && r < ROWS;
    }

    private static boolean isText(int t) {
        return t >= 0 && t < TEXTS;
    }

    private static boolean isKeptPlace(int k) {
        return k >= 0 && k < KEPT;
    }

    private static boolean isCell(int c) {
        return c >= 0 && c < CELLS;
    }

    private boolean isChance(int i, int n, int p) {
        return canal.has(i) && n >= 0 && n <= 6 && p >= 0 && p <= 12;
    }

    /** Subtracts rather than adds, because from + n could wrap around. */
    private static boolean hasSpan(int size, int from, int n) {
        return from >= 0 && from <= size && n <= size - from;
    }

    private static int presentIn(int[] sizes) {
        int present = 0;
        for (int k = 0; k < sizes.length; k++) {
            if (sizes[k] != MISSING) present++;
        }
        return present;
    }

    private static boolean isOfKind(int kind, int wanted) {
        return wanted == THING || kind == wanted
            || (kind == DOLL && wanted == RING) || (kind == CHAIR && wanted == SAFE);
    }

    /** The finding that a row of pairs (years from now on, the cell then) gives; 0 if it is in order. */
    private int pairsFinding(int r) {
        int size = rowSizes[r];
        if (size == MISSING) return NOTHING;
        if (size > 12 || size % 2 != 0) return SIZE;
        for (int i = 0; i + 1 < size; i += 2) {
            if (rows[r][i] < 0 || rows[r][i] > 20 || !isCell(rows[r][i + 1])) return UNLIKE;
        }
        return 0;
    }

    private boolean fitsPairs(int kind, int weight, int start, int r) {
        for (int i = 0; i + 1 < rowSizes[r]; i += 2) {
            if (canal.drifted(kind, weight, start, rows[r][i]) != rows[r][i + 1]) return false;
        }
        return true;
    }

    /** Steps from where one stands by thing i to its gate, as if the absent one was not there. */
    private int stepsHome(int i, int absent) {
        int barred = 0;
        for (int other = 0; other < canal.things; other++) {
            if (other == i || other == absent || canal.isTaken(other)) continue;
            barred |= 1 << streetPlace(other % 2, canal.cells[other]);
        }
        int from = streetPlace(i % 2, canal.cells[i]);
        int gate = streetPlace(0, canal.gates[i]);
        int onward = stepsAround(from, gate, 1, barred);
        int backward = stepsAround(from, gate, -1, barred);
        if (onward == NONE) return backward;
        if (backward == NONE) return onward;
        return Math.min(onward, backward);
    }

    /** Two banks that meet at both ends are one ring of 16 places, so only two ways lead anywhere. */
    private static int streetPlace(int bank, int c) {
        return bank == 0 ? c : 2 * CELLS - 1 - c;
    }

    private static int stepsAround(int from, int to, int direction, int barred) {
        int place = from;
        for (int steps = 0; steps < 2 * CELLS; steps++) {
            if (place == to) return steps;
            place = Math.floorMod(place + direction, 2 * CELLS);
            if ((barred >> place & 1) != 0) return NONE;
        }
        return NONE;
    }

    /** What comes of it if both MOVE at their best; the first one has the turn while an even number is left. */
    private static int outcome(int c, int gate, int other, int left) {
        if (left <= 0) return Math.abs(c - gate) - Math.abs(c - other);
        boolean firstOnes = left % 2 == 0;
        int best = outcome(c, gate, other, left - 1);
        for (int by = -1; by <= 1; by += 2) {
            if (!isCell(c + by)) continue;
            int next = outcome(c + by, gate, other, left - 1);
            best = firstOnes ? Math.max(best, next) : Math.min(best, next);
        }
        return best;
    }

    /** Reads the small language of a text. */
    private static final class Reader {
        private static final int ITEM = 4;

        // Four places an item: the head (letter, flow, level, unused), then each thing (kind, cell, weight, gate).
        final int[] said = new int[ITEM * (1 + THINGS_MOST)];
        int things = 0;

        /** The first place at which the text can't go on; NONE: what it says is in said and things. */
        int firstFault(byte[] signs, int size) {
            int item = 0;
            int part = 0;
            for (int place = 0; place < size && place < signs.length; place++) {
                int sign = signs[place];
                if (part == 0 && sign == BLANK) continue;
                if (item > THINGS_MOST) return place;
                int value = item == 0 ? headPart(part, sign) : thingPart(part, sign);
                if (value == NONE) return place;
                said[ITEM * item + part] = value;
                part++;
                if (part == (item == 0 ? 3 : ITEM)) {
                    part = 0;
                    item++;
                }
            }
            if (part != 0 || item < 2) return size;
            things = item - 1;
            return NONE;
        }

        private static int headPart(int part, int sign) {
            if (part == 0) return sign == 'f' ? 0 : NONE;
            return figure(sign, 9);
        }

        private static int thingPart(int part, int sign) {
            if (part == 0) return kindOfLetter(sign);
            return figure(sign, part == 2 ? 9 : CELLS - 1);
        }

        private static int figure(int sign, int most) {
            int value = sign - '0';
            return value >= 0 && value <= most ? value : NONE;
        }

        private static int kindOfLetter(int sign) {
            switch (sign) {
                case 't': return THING;
                case 'r': return RING;
                case 's': return SAFE;
                case 'b': return BICYCLE;
                case 'd': return DOLL;
                case 'c': return CHAIR;
                default: return NONE;
            }
        }
    }

    /** The things, the water, the year and the deeds by which they came to be so. */
    private static final class Canal {
        final int[] kinds = new int[THINGS_MOST];
        final int[] firstCells = new int[THINGS_MOST];
        final int[] cells = new int[THINGS_MOST];
        final int[] weights = new int[THINGS_MOST];
        final int[] gates = new int[THINGS_MOST];
        // A deed is 8 times what was done, and the thing that it was done to.
        final int[] deedRow = new int[DEEDS_MOST];
        int things = 0;
        int flow = 0;
        int firstLevel = 0;
        int level = 0;
        int year = 0;
        int deeds = 0;

        void fillFrom(Reader reader) {
            things = Math.min(reader.things, THINGS_MOST);
            flow = reader.said[1];
            firstLevel = reader.said[2];
            for (int i = 0; i < things; i++) {
                int place = Reader.ITEM * (i + 1);
                kinds[i] = reader.said[place];
                firstCells[i] = reader.said[place + 1];
                weights[i] = reader.said[place + 2];
                gates[i] = reader.said[place + 3];
            }
            replay(0);
        }

        /** The canal as it was behind its first n deeds; the later ones are forgotten. */
        void replay(int n) {
            System.arraycopy(firstCells, 0, cells, 0, THINGS_MOST);
            level = firstLevel;
            year = 0;
            deeds = Math.min(n, DEEDS_MOST);
            for (int k = 0; k < deeds; k++) act(deedRow[k] / 8, deedRow[k] % 8);
        }

        /** Whoever calls has seen that the deed can be. */
        void perform(int deed, int i) {
            if (deeds >= DEEDS_MOST) return;
            deedRow[deeds] = 8 * deed + i;
            deeds++;
            act(deed, i);
        }

        void performLot(long lot) {
            if (things == 0) return;
            int i = (int) (lot % things);
            switch ((int) (lot / 8L % 4L)) {
                case 0: perform(DRAW, 0); break;
                case 1: perform(canMove(i, 1) ? MOVE_ON : FILL, i); break;
                case 2: perform(canTake(i) ? TAKE : FILL, i); break;
                default: perform(YEAR, 0); break;
            }
        }

        private void act(int deed, int i) {
            if (!has(i)) return;
            switch (deed) {
                case YEAR: passYear(); break;
                case DRAW: level = Paddles.drawn(level); break;
                case FILL: level = Paddles.filled(level); break;
                case MOVE_ON: cells[i]++; break;
                case MOVE_BACK: cells[i]--; break;
                case TAKE: cells[i] = NONE; break;
                default: break;
            }
        }

        private void passYear() {
            for (int i = 0; i < things; i++) {
                if (!isTaken(i)) cells[i] = step(kinds[i], weights[i], cells[i], year);
            }
            year++;
        }

        boolean has(int i) {
            return i >= 0 && i < things;
        }

        boolean isTaken(int i) {
            return cells[i] == NONE;
        }

        boolean canMove(int i, int by) {
            return !isTaken(i) && isCell(cells[i] + by);
        }

        boolean canTake(int i) {
            return !isTaken(i) && level == 0;
        }

        /** How far a thing would drift in a year of this number, cells aside. */
        int drift(int kind, int weight, int inYear) {
            if (level == 0) return 0;
            int plain = flow > weight ? 1 : 0;
            boolean evenYear = inYear % 2 == 0;
            switch (kind) {
                case RING: return plain + 1;
                case SAFE: return 0;
                case BICYCLE: return evenYear ? plain : 0;
                case DOLL: return -(plain + 1);
                case CHAIR: return evenYear ? 0 : 1;
                default: return plain;
            }
        }

        private int step(int kind, int weight, int from, int inYear) {
            return Math.max(0, Math.min(CELLS - 1, from + drift(kind, weight, inYear)));
        }

        /** The cell to which a thing of this kind and weight comes in n years, from now on. */
        int drifted(int kind, int weight, int from, int n) {
            int c = from;
            for (int k = 0; k < n; k++) c = step(kind, weight, c, year + k);
            return c;
        }

        int cellAfter(int i, int from, int n) {
            return drifted(kinds[i], weights[i], from, n);
        }

        /** The least cell in which three things lie in n years, or NONE. */
        int crowdedCell(int n) {
            int lyingOnce = 0;
            int lyingTwice = 0;
            int lyingThrice = 0;
            for (int i = 0; i < things; i++) {
                if (isTaken(i)) continue;
                int here = 1 << cellAfter(i, cells[i], n);
                lyingThrice |= lyingTwice & here;
                lyingTwice |= lyingOnce & here;
                lyingOnce |= here;
            }
            return lyingThrice == 0 ? NONE : Integer.numberOfTrailingZeros(lyingThrice);
        }

        int fewestMoves(int i, int target, int n) {
            int fewest = NONE;
            for (int start = 0; start < CELLS; start++) {
                if (cellAfter(i, start, n) != target) continue;
                int way = Math.abs(start - cells[i]);
                if (fewest == NONE || way < fewest) fewest = way;
            }
            return fewest;
        }

        /**
         * Over all ways in which left years can be still (p of 12) or not: their sum, each counted by its share,
         * of those that end in the target, or, without a target, of the cells in which they end.
         */
        private long weighWays(int i, int from, int left, int p, int target, int inYear) {
            if (left <= 0) {
                if (target == NONE) return from;
                return from == target ? 1L : 0L;
            }
            int next = step(kinds[i], weights[i], from, inYear);
            return p * weighWays(i, from, left - 1, p, target, inYear + 1)
                + (12 - p) * weighWays(i, next, left - 1, p, target, inYear + 1);
        }

        int fact(int i, int what) {
            switch (what) {
                case 0: return kinds[i];
                case 1: return cells[i];
                case 2: return weights[i];
                case 3: return gates[i];
                default: return drift(kinds[i], weights[i], year);
            }
        }

        /** What thing i, which is of this kind, tells as one of that kind. */
        int markAs(int i, int kind) {
            switch (kind) {
                case RING: return Math.max(0, weights[i] + 1 - flow);
                case SAFE: return isTaken(i) ? 0 : Integer.bitCount(lyingIn(cells[i])) - 1;
                case BICYCLE: return year % 2;
                case DOLL: return countOfKind(RING);
                default: return isTaken(i) ? 0 : CELLS - 1 - cells[i];
            }
        }

        int lyingIn(int c) {
            int lying = 0;
            for (int i = 0; i < things; i++) {
                if (cells[i] == c) lying |= 1 << i;
            }
            return lying;
        }

        int takenBits() {
            return lyingIn(NONE);
        }

        int countOfKind(int kind) {
            int many = 0;
            for (int i = 0; i < things; i++) {
                if (isOfKind(kinds[i], kind)) many++;
            }
            return many;
        }
    }

    /** Finds who stands by which thing so that all go least far. */
    private static final class Crowd {
        private final int[] order = new int[THINGS_MOST];
        final int[] best = new int[THINGS_MOST];
        private int least = 0;

        int leastSum(Canal canal) {
            least = Integer.MAX_VALUE;
            seat(canal, 0, 0, 0);
            return least;
        }

        /** Tries people by rising number, so that the first order found of the least sum is the first of all. */
        private void seat(Canal canal, int i, int seated, int sum) {
            if (sum >= least) return;
            if (!canal.has(i)) {
                least = sum;
                System.arraycopy(order, 0, best, 0, THINGS_MOST);
                return;
            }
            if (canal.isTaken(i)) {
                seat(canal, i + 1, seated, sum);
                return;
            }
            for (int who = 0; who < canal.things; who++) {
                if (canal.isTaken(who) || (seated >> who & 1) != 0) continue;
                order[i] = who;
                seat(canal, i + 1, seated | 1 << who, sum + Math.abs(canal.gates[who] - canal.cells[i]));
            }
        }
    }

    /** Counts the turns of the paddles between levels. */
    private static final class Paddles {
        final int[] turns = new int[LEVEL_MOST + 1];

        static int drawn(int level) {
            return Math.max(0, level - 2);
        }

        static int filled(int level) {
            return Math.min(LEVEL_MOST, level + 3);
        }

        /** No fewest row of turns comes to a level twice: as many rounds as levels find them all. */
        void countTurnsTo(int target) {
            Arrays.fill(turns, LEVEL_MOST + 1);
            turns[target] = 0;
            for (int round = 0; round <= LEVEL_MOST; round++) {
                for (int level = 0; level <= LEVEL_MOST; level++) {
                    int next = 1 + Math.min(turns[drawn(level)], turns[filled(level)]);
                    turns[level] = Math.min(turns[level], next);
                }
            }
        }

        /** The first of the fewest rows of turns, by bits; a DRAW comes ahead of a FILL wherever both are as good. */
        int firstRowFrom(int start) {
            int row = 0;
            int level = start;
            int many = turns[start];
            for (int k = 0; k < many && k <= LEVEL_MOST; k++) {
                if (turns[drawn(level)] == many - k - 1) {
                    level = drawn(level);
                } else {
                    level = filled(level);
                    row |= 1 << k;
                }
            }
            return row;
        }
    }
}
