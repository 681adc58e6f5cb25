import java.util.function.Supplier;

/** Boundary cases of promises 27 to 30: who stands by which, the paddles, ways home. */
public final class EdgeBanksTest {
    private static final Supplier<CanalRings> BARE = CanalRings::new;
    private static final Supplier<CanalRings> RICH = Edge::rich;
    private static final Supplier<CanalRings> SIX = Edge.canal(Trial.SIX);

    public static void main(String[] args) {
        standNumbers();
        standSums();
        standFirstOrder();
        standRowAnew();
        standTaken();
        standRefusals();
        levelNumbers();
        levelAllPairs();
        levelDrawSooner();
        levelRefusals();
        homeNumbers();
        homeAlone();
        homeAcross();
        homeBarred();
        homeOwnPlace();
        homeGate();
        homeRefusals();
        stopsNumbers();
        stopsBits();
        stopsNone();
        stopsTaken();
        stopsRefusals();
        Trial.end("EdgeBanksTest");
    }

    private static void standNumbers() {
        Edge.range("stand(r)", SIX, (x, r) -> x.stand(r), 0, 1, 5, 1);
        Edge.range("stand(r) by ROWS of 40", Edge::rich, (x, r) -> x.stand(r), 0, standOfRich(), 5, standOfRich());
    }

    /** Those of rich() that are not TAKEN lie in 5, 2, 5, 4, 3; their GATES are 3, 1, 7, 5, 0. */
    private static int standOfRich() {
        CanalRings x = Edge.rich();
        int[] cells = {5, 2, 5, 4, 3};
        for (int i = 0; i < 5; i++) Trial.due("rich thing " + i, x.lies(i, 0), cells[i]);
        // Ways add up least in rising order: 0 to 2, 1 to 3, 3 to 4, 5 to 5, 7 to 5.
        return 2 + 2 + 1 + 0 + 2;
    }

    /** "The least sum of ways": 0, 42; one alone. */
    private static void standSums() {
        Trial.due("one by its own", Trial.canal("f00t303").stand(0), 0);
        Trial.due("one as far as can be", Trial.canal("f00t007").stand(0), 7);
        Trial.due("six as far as can be", Trial.canal("f00t007t007t007t007t007t007").stand(0), 42);
        Trial.due("two change places", Trial.canal("f00t007t700").stand(0), 0);
    }

    /** "the first such order": the least number first, wherever orders are as good. */
    private static void standFirstOrder() {
        CanalRings six = Trial.canal("f00t007t007t007t007t007t007");
        six.stand(2);
        Trial.rowIs("all orders are as good", six, 2, 0, 1, 2, 3, 4, 5);
        CanalRings crossed = Trial.canal("f00t007t700");
        crossed.stand(2);
        Trial.rowIs("they change places", crossed, 2, 1, 0);
        CanalRings turned = Trial.canal("f00t001t102t203t304t405t500");
        Trial.due("each by the next one's", turned.stand(2), 0);
        Trial.rowIs("turned by one", turned, 2, 5, 0, 1, 2, 3, 4);
        CanalRings tie = Trial.canal("f00t300t300t006");
        Trial.due("of like ones the lower number", tie.stand(2), 0 + 3 + 3);
        Trial.rowIs("the first of the best", tie, 2, 0, 2, 1);
    }

    /** "comes to a ROW (anew ...)": of as many places as there are THINGS not TAKEN, be it missing, longer, shorter. */
    private static void standRowAnew() {
        for (int size : new int[] {-1, 0, 1, 3, 40}) {
            CanalRings x = Trial.canal("f00t007t700t303");
            if (size >= 0) x.row(4, size);
            for (int i = 0; i < size; i++) x.lay(4, i, 77);
            int rows = x.count(8);
            Trial.due("the sum", x.stand(4), 0);
            Trial.rowIs("three places", x, 4, 1, 0, 2);
            Trial.due("it is there", x.count(8), size < 0 ? rows + 1 : rows);
        }
    }

    /** "of those that are not TAKEN": five of six, one, none. */
    private static void standTaken() {
        CanalRings x = Trial.canal("f00t000t101t202t303t404t505");
        int[][] left = {{0, 1, 2, 3, 4, 5}, {1, 2, 3, 4, 5}, {1, 2, 3, 4}, {1, 3, 4}, {1, 3}, {3}, {}};
        int[] next = {0, 5, 2, 4, 1, 3};
        for (int k = 0; k <= 6; k++) {
            Trial.due("the sum with " + k + " TAKEN", x.stand(0), 0);
            Trial.rowIs("those left with " + k + " TAKEN", x, 0, left[k]);
            if (k < 6) x.take(next[k]);
        }
        CanalRings far = Edge.canal("f00t000t007t700", y -> y.take(1)).get();
        Trial.due("a TAKEN one's GATE is none to go from", far.stand(0), 7);
        Trial.rowIs("the two that are left", far, 0, 0, 2);
    }

    /** "STATE: no THINGS; BAD. (BAD first.)" */
    private static void standRefusals() {
        for (int r = 0; r < 6; r++) {
            int row = r;
            Edge.refused("no THINGS", BARE, x -> x.stand(row), Edge.STATE);
            Edge.refused("no THINGS, a ROW", () -> Edge.allRows(2), x -> x.stand(row), Edge.STATE);
        }
        for (int r : new int[] {-1, 6}) {
            Edge.refused("BAD first", BARE, x -> x.stand(r), Edge.BAD);
            Edge.refused("BAD", RICH, x -> x.stand(r), Edge.BAD);
        }
    }

    /** "to a LEVEL (0 .. 9)" */
    private static void levelNumbers() {
        Edge.range("level(v)", SIX, (x, v) -> x.level(v), 0, 3, 9, 1);
        Edge.range("level(v) at 0", Edge.canal("f00t000"), (x, v) -> x.level(v), 0, 0, 9, 3);
    }

    /** Each LEVEL from each, by trying all rows of turns; the first of the fewest; no DEED is done. */
    private static void levelAllPairs() {
        for (int from = 0; from <= 9; from++) {
            for (int to = 0; to <= 9; to++) {
                CanalRings x = Trial.canal("f0" + from + "t000");
                long before = x.digest();
                int fewest = fewestTurns(from, to);
                Trial.due("level " + from + " to " + to, x.level(to), fewest);
                Trial.due("turns " + from + " to " + to, x.asked(), firstTurns(from, to, fewest));
                Trial.due("aside", x.digest(), before);
                int bits = x.asked();
                Trial.due("no bits behind the last turn", bits >> fewest, 0);
                for (int k = 0; k < fewest; k++) x.paddle(bits >> k & 1);
                Trial.due("they lead there", x.count(3), to);
            }
        }
    }

    private static int turned(int level, int fill) {
        if (fill == 1) return level + 3 > 9 ? 9 : level + 3;
        return level - 2 < 0 ? 0 : level - 2;
    }

    private static boolean leads(int from, int to, int n, int bits) {
        int level = from;
        for (int k = 0; k < n; k++) level = turned(level, bits >> k & 1);
        return level == to;
    }

    private static int fewestTurns(int from, int to) {
        for (int n = 0; n <= 12; n++) {
            for (int bits = 0; bits < 1 << n; bits++) if (leads(from, to, n, bits)) return n;
        }
        return Edge.NONE;
    }

    /** Of all rows of n turns that lead there, the one that DRAWS where another one first does otherwise. */
    private static int firstTurns(int from, int to, int n) {
        int best = -1;
        for (int bits = 0; bits < 1 << n; bits++) {
            if (!leads(from, to, n, bits)) continue;
            if (best < 0 || (bits >> Integer.numberOfTrailingZeros(bits ^ best) & 1) == 0) best = bits;
        }
        return best;
    }

    private static void turns(int from, int to, int fewest, int bits) {
        CanalRings x = Trial.canal("f0" + from + "t000");
        Trial.due("level " + from + " to " + to, x.level(to), fewest);
        Trial.due("turns " + from + " to " + to, x.asked(), bits);
    }

    /** "a bit for each, the first one lowest: 1 FILL; of like few that with DRAW sooner" */
    private static void levelDrawSooner() {
        turns(0, 0, 0, 0);
        turns(9, 9, 0, 0);
        turns(0, 2, 4, 0b0101);
        turns(2, 3, 2, 0b10);
        turns(1, 2, 2, 0b01);
        turns(9, 0, 5, 0b00000);
        turns(0, 9, 3, 0b111);
    }

    /** "BAD; STATE: no THINGS." */
    private static void levelRefusals() {
        for (int v = 0; v <= 9; v++) {
            int level = v;
            Edge.refused("no THINGS", BARE, x -> x.level(level), Edge.STATE);
        }
        for (int v : new int[] {-1, 10}) {
            Edge.refused("BAD ahead of STATE", BARE, x -> x.level(v), Edge.BAD);
            Edge.refused("BAD", RICH, x -> x.level(v), Edge.BAD);
        }
        CanalRings full = Edge.full(Trial.SIX).get();
        Trial.due("it is aside: 40 DEEDS bar nothing", full.level(0), 5);
    }

    private static void home(String signs, int i, int want) {
        Edge.aside("home(" + i + ") of " + signs, Edge.canal(signs), x -> x.home(i), want);
    }

    private static void homeNumbers() {
        Edge.range("home(i)", Edge.canal("f00t001t200t303t404t505t707"), (x, i) -> x.home(i), 0, 1, 5, 1);
        Edge.range("home(i) of one", Edge.canal("f00t007"), (x, i) -> x.home(i), 0, 7, 0, 7);
    }

    /** Alone on bank 0: as far as the GATE is. From bank 1 one goes across at the nearer end. */
    private static void homeAlone() {
        for (int cell = 0; cell < 8; cell++) {
            for (int gate = 0; gate < 8; gate++) {
                int straight = cell > gate ? cell - gate : gate - cell;
                home("f00t" + cell + "0" + gate, 0, straight);
                CanalRings other = Edge.canal("f00t000t" + cell + "0" + gate, x -> x.take(0)).get();
                int by0 = cell + 1 + gate;
                int by7 = 7 - cell + 1 + 7 - gate;
                Trial.due("from bank 1, " + cell + " to " + gate, other.home(1), by0 < by7 ? by0 : by7);
            }
        }
    }

    /** "across at CELLS 0 and 7", and nowhere else: not at 1, 6. */
    private static void homeAcross() {
        home("f00t700t000", 1, 1);
        home("f00t000t707", 1, 1);
        home("f00t700t101", 1, 3);
        home("f00t000t606", 1, 3);
        // Both ends of bank 0 are barred.
        home("f00t000t303t700", 1, Edge.NONE);
        // One end of bank 1 and the other one of bank 0 are barred.
        home("f00t000t303t300t700", 1, Edge.NONE);
        // Whose number is even stands on bank 0, whose number is odd on bank 1.
        for (int i = 0; i < 6; i++) {
            StringBuilder signs = new StringBuilder("f00");
            for (int k = 0; k < 6; k++) signs.append(k == i ? "t600" : "t707");
            home(signs.toString(), i, i % 2 == 0 ? 6 : 7);
        }
    }

    /** "not through a place where whose another THING is stands": beside oneself, midway, ahead of the GATE. */
    private static void homeBarred() {
        for (int at = 1; at <= 5; at++) {
            home("f00t006t007t" + at + "00", 0, Edge.NONE);
            home("f00t006t100t" + at + "00", 0, Edge.NONE);
            home("f00t600t007t" + at + "00", 0, Edge.NONE);
        }
        // Nobody stands on bank 1: round by it.
        CanalRings round = Edge.canal("f00t006t007t300", x -> x.take(1)).get();
        Trial.due("round", round.home(0), 1 + 7 + 1 + 1);
        // Those on the other bank bar nothing of this one.
        home("f00t006t300", 0, 6);
        // Those behind one's back, or behind the GATE, bar nothing.
        home("f00t205t000t100", 0, 3);
        home("f00t205t000t600", 0, 3);
        // The longer way, if the shorter one is barred.
        home("f00t700t606", 1, 6 + 1 + 6);
        home("f00t600t707t000t101", 1, 1);
        // The longest one: two CELLS on, with somebody between.
        CanalRings longest = Edge.canal("f00t103t000t200", x -> x.take(1)).get();
        Trial.due("all the way round", longest.home(0), 1 + 1 + 7 + 1 + 4);
    }

    /** "one's own place counts for nothing": others there bar neither the start nor a GATE there. */
    private static void homeOwnPlace() {
        home("f00t303t000t303t000t303", 0, 0);
        home("f00t305t000t305t000t305", 0, 2);
        home("f00t000t707t000t707", 1, 1);
        home("f00t000t707t000t707", 3, 1);
    }

    /** "nor to it": whoever stands at the GATE bars it; by GATE 0, 7, too. */
    private static void homeGate() {
        for (int gate = 0; gate < 8; gate++) {
            int from = gate == 3 ? 4 : 3;
            home("f00t" + from + "0" + gate + "t" + from + "00t" + gate + "00", 0, Edge.NONE);
            home("f00t" + from + "0" + gate + "t" + gate + "00", 0, from > gate ? from - gate : gate - from);
        }
        CanalRings gone = Edge.canal("f00t307t300t700", x -> x.take(2)).get();
        Trial.due("gone home, nobody bars it", gone.home(0), 4);
    }

    /** "BAD; STATE: it is TAKEN." */
    private static void homeRefusals() {
        Edge.refused("TAKEN", RICH, x -> x.home(5), Edge.STATE);
        Edge.refused("BAD", RICH, x -> x.home(6), Edge.BAD);
        Edge.refused("no THINGS", BARE, x -> x.home(0), Edge.BAD);
    }

    private static void stops(String signs, int i, int want) {
        Edge.aside("stops(" + i + ") of " + signs, Edge.canal(signs), x -> x.stops(i), want);
    }

    private static void stopsNumbers() {
        Edge.range("stops(i)", Edge.canal("f00t205t000t400"), (x, i) -> x.stops(i), 0, 0b110, 2, 0b011);
        Edge.range("stops(i) of one", Edge.canal("f00t007"), (x, i) -> x.stops(i), 0, 0, 0, 0);
    }

    /** "each of whom alone bars home()": one on each way round makes two; at the GATE it is one. */
    private static void stopsBits() {
        stops("f00t205t000t400", 0, 0b110);
        stops("f00t205t400t400", 0, 0b110);
        stops("f00t205t000t500", 0, 0b100);
        stops("f00t000t007t700", 1, 0b100);
        stops("f00t000t007t000t000t000t700", 1, 0b100000);
        // One on bank 0, two on bank 1: only the one's way would be free.
        stops("f00t205t000t400t700", 0, 0b100);
        // The sixth one and the first one.
        stops("f00t400t000t205t000t205t700", 4, 0b000001);
    }

    /** "(0: there is one with all of them, too, or none)" */
    private static void stopsNone() {
        stops("f00t205", 0, 0);
        stops("f00t205t400", 0, 0);
        stops("f00t202t000t200t200", 0, 0);
        // Two on each way: taking one away frees none.
        stops("f00t205t000t300t700t400", 0, 0);
        // Two at the GATE.
        stops("f00t205t000t500t000t500", 0, 0);
    }

    private static void stopsTaken() {
        CanalRings x = Trial.canal("f00t205t000t300t700t400");
        Trial.due("two on each way", x.stops(0), 0);
        x.take(1);
        Trial.due("one on one way", x.stops(0), 0b1000);
        x.take(2);
        Trial.due("one on each way", x.stops(0), 0b11000);
        x.take(3);
        Trial.due("none on one way", x.stops(0), 0);
        Trial.due("there is one", x.home(0), 2 + 1 + 7 + 1 + 2);
    }

    /** "BAD; STATE: it is TAKEN." */
    private static void stopsRefusals() {
        Edge.refused("TAKEN", RICH, x -> x.stops(5), Edge.STATE);
        Edge.refused("BAD", RICH, x -> x.stops(6), Edge.BAD);
        Edge.refused("no THINGS", BARE, x -> x.stops(0), Edge.BAD);
    }
}
