import java.util.function.Supplier;

/** Boundary cases of promises 31 to 34: by where it lay, by turns. */
public final class EdgePairsNightTest {
    private static final Supplier<CanalRings> BARE = CanalRings::new;
    private static final Supplier<CanalRings> RICH = Edge::rich;
    private static final Edge.NumberCall[] THREE_BY_ROW = {
        (x, r) -> x.starts(0, r), (x, r) -> x.weights(0, r), (x, r) -> x.kinds(0, r)};
    private static final Edge.NumberCall[] THREE_BY_THING = {
        (x, i) -> x.starts(i, 3), (x, i) -> x.weights(i, 3), (x, i) -> x.kinds(i, 3)};
    private static final String[] NAMES = {"starts", "weights", "kinds"};
    /** No pairs: everything can be. */
    private static final int[] ALL = {255, 1023, 63};

    public static void main(String[] args) {
        numbers();
        sizes();
        years();
        cells();
        lastPair();
        sizeAheadOfUnlike();
        order();
        stateLast();
        startsBits();
        weightsBits();
        kindsBits();
        nightNumbers();
        nightNone();
        nightEnds();
        nightAll();
        nightRefusals();
        Trial.end("EdgePairsNightTest");
    }

    /** A canal with ROW r laid with these numbers. */
    private static Supplier<CanalRings> laid(String signs, int r, int... numbers) {
        return () -> {
            CanalRings x = Trial.canal(signs);
            Trial.layAll(x, r, numbers);
            return x;
        };
    }

    private static Supplier<CanalRings> sized(int n) {
        return laid("f91t300", 0, new int[n]);
    }

    private static void numbers() {
        Supplier<CanalRings> empty = () -> {
            CanalRings x = Trial.canal("f00t300t300t300t300t300t300");
            for (int r = 0; r < 6; r++) x.row(r, 0);
            return x;
        };
        for (int k = 0; k < 3; k++) {
            Edge.range(NAMES[k] + "(0, r)", empty, THREE_BY_ROW[k], 0, ALL[k], 5, ALL[k]);
            Edge.range(NAMES[k] + "(i, 3)", empty, THREE_BY_THING[k], 0, ALL[k], 5, ALL[k]);
        }
    }

    /** "a ROW of pairs, 0 to 6": 0, 2, .. 12 ints; any other number of them is SIZE. */
    private static void sizes() {
        for (int n = 0; n <= 40; n++) {
            boolean fits = n % 2 == 0 && n <= 12;
            for (int k = 0; k < 3; k++) {
                Edge.NumberCall call = THREE_BY_ROW[k];
                String name = NAMES[k] + " by " + n + " ints";
                // In 0 YEARS in CELL 0: one that lies in 3 is none such.
                int want = n == 0 ? ALL[k] : k == 0 ? 1 : 0;
                if (fits) Edge.aside(name, sized(n), x -> call.of(x, 0), want);
                else Edge.finds(name, sized(n), x -> call.of(x, 0), Edge.SIZE);
            }
        }
    }

    /** "in how many YEARS from now on 0 .. 20" */
    private static void years() {
        int[][] taken = {{0, 3}, {20, 7}};
        int[][] bits = {{8, 255}, {1023, 511}, {63, 1 | 2 | 8 | 32}};
        for (int k = 0; k < 3; k++) {
            Edge.NumberCall call = THREE_BY_ROW[k];
            for (int p = 0; p < 2; p++) {
                Supplier<CanalRings> made = laid("f91t300", 0, taken[p]);
                Edge.aside(NAMES[k] + " in " + taken[p][0], made, x -> call.of(x, 0), bits[k][p]);
            }
            for (int n : new int[] {-1, 21, Edge.LEAST, Edge.MOST}) {
                Edge.finds(NAMES[k] + " in " + n, laid("f91t300", 0, n, 3), x -> call.of(x, 0), Edge.UNLIKE);
            }
        }
    }

    /** "the CELL then": 0 .. 7. */
    private static void cells() {
        int[][] bits = {{1, 128}, {0, 0}, {0, 0}};
        for (int k = 0; k < 3; k++) {
            Edge.NumberCall call = THREE_BY_ROW[k];
            Edge.aside(NAMES[k] + " in CELL 0", laid("f91t300", 0, 0, 0), x -> call.of(x, 0), bits[k][0]);
            Edge.aside(NAMES[k] + " in CELL 7", laid("f91t300", 0, 0, 7), x -> call.of(x, 0), bits[k][1]);
            for (int c : new int[] {-1, 8, Edge.NONE, Edge.LEAST, Edge.MOST}) {
                Edge.finds(NAMES[k] + " in CELL " + c, laid("f91t300", 0, 0, c), x -> call.of(x, 0), Edge.UNLIKE);
            }
        }
    }

    /** Each pair counts, the sixth one, too; one that is wrong is found behind one that does not fit. */
    private static void lastPair() {
        for (int pair = 0; pair < 6; pair++) {
            int[] numbers = {0, 3, 0, 3, 0, 3, 0, 3, 0, 3, 0, 3};
            numbers[2 * pair + 1] = 4;
            int[] wrongCell = {0, 4, 0, 3, 0, 5, 0, 3, 0, 3, 0, 3};
            wrongCell[2 * pair + 1] = 8;
            int[] wrongYears = {0, 4, 0, 3, 0, 5, 0, 3, 0, 3, 0, 3};
            wrongYears[2 * pair] = 21;
            for (int k = 0; k < 3; k++) {
                Edge.NumberCall call = THREE_BY_ROW[k];
                Edge.aside(NAMES[k] + " pair " + pair, laid("f91t300", 0, numbers), x -> call.of(x, 0), 0);
                Edge.finds(NAMES[k] + " CELL 8 in pair " + pair, laid("f91t300", 0, wrongCell),
                    x -> call.of(x, 0), Edge.UNLIKE);
                Edge.finds(NAMES[k] + " 21 in pair " + pair, laid("f91t300", 0, wrongYears),
                    x -> call.of(x, 0), Edge.UNLIKE);
            }
        }
    }

    private static void sizeAheadOfUnlike() {
        int[] thirteen = new int[13];
        int[] fourteen = new int[14];
        thirteen[0] = 21;
        fourteen[1] = 8;
        for (int k = 0; k < 3; k++) {
            Edge.NumberCall call = THREE_BY_ROW[k];
            Edge.finds(NAMES[k] + " of 1", laid("f91t300", 0, 21), x -> call.of(x, 0), Edge.SIZE);
            Edge.finds(NAMES[k] + " of 3", laid("f91t300", 0, 0, 8, 0), x -> call.of(x, 0), Edge.SIZE);
            Edge.finds(NAMES[k] + " of 13", laid("f91t300", 0, thirteen), x -> call.of(x, 0), Edge.SIZE);
            Edge.finds(NAMES[k] + " of 14", laid("f91t300", 0, fourteen), x -> call.of(x, 0), Edge.SIZE);
        }
    }

    /** "NOTHING; SIZE; UNLIKE; behind BAD" */
    private static void order() {
        for (int k = 0; k < 3; k++) {
            Edge.NumberCall byRow = THREE_BY_ROW[k];
            Edge.NumberCall byThing = THREE_BY_THING[k];
            Edge.finds(NAMES[k] + " NOTHING", RICH, x -> byRow.of(x, 2), Edge.NOTHING);
            Edge.finds(NAMES[k] + " SIZE", RICH, x -> byRow.of(x, 0), Edge.SIZE);
            Edge.finds(NAMES[k] + " SIZE of 40", RICH, x -> byRow.of(x, 3), Edge.SIZE);
            for (int i : new int[] {-1, 1}) {
                Edge.refused(NAMES[k] + " BAD ahead of NOTHING", Edge.canal("f91t300"), x -> byThing.of(x, i), Edge.BAD);
                Edge.refused(NAMES[k] + " BAD ahead of SIZE", laid("f91t300", 3, 9), x -> byThing.of(x, i), Edge.BAD);
                Edge.refused(NAMES[k] + " BAD ahead of UNLIKE", laid("f91t300", 3, 0, 9), x -> byThing.of(x, i), Edge.BAD);
            }
            for (int r : new int[] {-1, 6}) {
                Edge.refused(NAMES[k] + " BAD", Edge.canal("f91t300"), x -> byRow.of(x, r), Edge.BAD);
            }
            Edge.refused(NAMES[k] + " no THINGS, no ROW", BARE, x -> byRow.of(x, 0), Edge.BAD);
            Edge.refused(NAMES[k] + " no THINGS, a ROW", () -> Edge.allRows(2), x -> byRow.of(x, 0), Edge.BAD);
        }
    }

    private static Supplier<CanalRings> takenThen(int... numbers) {
        return () -> {
            CanalRings x = laid("f90t300t300", 3, numbers).get();
            x.take(1);
            return x;
        };
    }

    /** "STATE: it is TAKEN. (STATE last.)" starts() has no such. */
    private static void stateLast() {
        Supplier<CanalRings> missing = Edge.canal("f90t300t300", x -> x.take(1));
        for (int k = 1; k < 3; k++) {
            Edge.NumberCall call = THREE_BY_THING[k];
            Edge.finds(NAMES[k] + " NOTHING ahead of STATE", missing, x -> call.of(x, 1), Edge.NOTHING);
            Edge.finds(NAMES[k] + " SIZE ahead of STATE", takenThen(1, 1, 1), x -> call.of(x, 1), Edge.SIZE);
            Edge.finds(NAMES[k] + " UNLIKE ahead of STATE", takenThen(0, 8), x -> call.of(x, 1), Edge.UNLIKE);
            Edge.refused(NAMES[k] + " STATE", takenThen(0, 3), x -> call.of(x, 1), Edge.STATE);
            Edge.refused(NAMES[k] + " STATE, no pairs", takenThen(), x -> call.of(x, 1), Edge.STATE);
            Edge.refused(NAMES[k] + " BAD ahead of STATE", takenThen(0, 3), x -> call.of(x, 2), Edge.BAD);
        }
        Edge.refused("weights BAD ahead of STATE, ROW 6", takenThen(0, 3), x -> x.weights(1, 6), Edge.BAD);
        Edge.refused("kinds BAD ahead of STATE, ROW 6", takenThen(0, 3), x -> x.kinds(1, 6), Edge.BAD);
        Edge.aside("starts of a TAKEN one", takenThen(0, 3), x -> x.starts(1, 3), 8);
        Edge.aside("starts of a TAKEN one, no pairs", takenThen(), x -> x.starts(1, 3), 255);
        Edge.finds("starts of a TAKEN one, NOTHING", missing, x -> x.starts(1, 3), Edge.NOTHING);
    }

    private static void bits(String what, Supplier<CanalRings> made, Edge.Call call, int want) {
        Edge.aside(what, made, call, want);
    }

    /** "In which CELLS (bits)": none, one at each end, all. */
    private static void startsBits() {
        bits("all come to 7", laid("f91t300", 1, 7, 7), x -> x.starts(0, 1), 255);
        bits("all but one", laid("f91t300", 1, 6, 7), x -> x.starts(0, 1), 254);
        bits("none", laid("f91t300", 1, 1, 0), x -> x.starts(0, 1), 0);
        bits("only 0", laid("f91t300", 1, 1, 1), x -> x.starts(0, 1), 1);
        bits("only 7", laid("f91d300", 1, 1, 5), x -> x.starts(0, 1), 128);
        bits("held by 0", laid("f91d300", 1, 1, 0), x -> x.starts(0, 1), 7);
        bits("two that can't both be", laid("f91s300", 1, 0, 3, 20, 4), x -> x.starts(0, 1), 0);
        bits("level 0", laid("f90t300", 1, 20, 6), x -> x.starts(0, 1), 64);
    }

    /** "Which WEIGHTS (bits 0 .. 9)": none, all, those below the FLOW, the others. */
    private static void weightsBits() {
        for (int flow = 0; flow <= 9; flow++) {
            String signs = "f" + flow + "1t390";
            int light = (1 << flow) - 1;
            bits("light ones, flow " + flow, laid(signs, 1, 1, 4), x -> x.weights(0, 1), light);
            bits("heavy ones, flow " + flow, laid(signs, 1, 1, 3), x -> x.weights(0, 1), 1023 - light);
        }
        bits("level 0", laid("f90t300", 1, 20, 3), x -> x.weights(0, 1), 1023);
        bits("level 0, elsewhere", laid("f90t300", 1, 20, 4), x -> x.weights(0, 1), 0);
        bits("at the end all alike", laid("f91r700", 1, 20, 7), x -> x.weights(0, 1), 1023);
        bits("a chair of any", laid("f91c300", 1, 2, 4), x -> x.weights(0, 1), 1023);
    }

    /** "Of which KINDS (bits)": none, each at both ends, all. */
    private static void kindsBits() {
        bits("level 0", laid("f90t300", 1, 20, 3), x -> x.kinds(0, 1), 63);
        bits("none", laid("f91t300", 1, 1, 6), x -> x.kinds(0, 1), 0);
        bits("at 7 all but the doll", laid("f91t700", 1, 1, 7), x -> x.kinds(0, 1), 63 - 16);
        bits("at 0 the doll, safe, chair", laid("f91t000", 1, 1, 0), x -> x.kinds(0, 1), 16 + 4 + 32);
        bits("the chair alone", laid("f01t390", 1, 2, 4, 1, 3), x -> x.kinds(0, 1), 32);
        bits("the thing alone", laid("f91t300", 1, 1, 4, 2, 5), x -> x.kinds(0, 1), 1);
    }

    /** "by GATES", "n (0 .. 3) times each" */
    private static void nightNumbers() {
        Supplier<CanalRings> six = Edge.canal("f00t300t300t300t300t300t700");
        Edge.range("night(i, 2, 6, 0)", six, (x, i) -> x.night(i, 2, 6, 0), 0, 1, 5, 1);
        Edge.range("night(0, gate, 3, 0)", six, (x, gate) -> x.night(0, gate, 3, 0), 0, 1, 7, 1);
        Edge.range("night(0, 3, other, 0)", six, (x, other) -> x.night(0, 3, other, 0), 0, 1, 7, 1);
        Edge.range("night(0, 2, 6, n)", six, (x, n) -> x.night(0, 2, 6, n), 0, 1, 3, 1);
        for (int g = 0; g < 8; g++) {
            int gate = g;
            Edge.refused("like GATES " + g, six, x -> x.night(0, gate, gate, 1), Edge.BAD);
        }
        for (int one = 0; one < 7; one++) {
            CanalRings x = six.get();
            Trial.due("GATES beside one another", x.night(0, one, one + 1, 1), 1);
            Trial.due("the other way round", x.night(0, one + 1, one, 1), 1);
        }
    }

    /** n is 0: nobody MOVES it; below 0, too. */
    private static void nightNone() {
        for (int cell : new int[] {0, 3, 7}) {
            CanalRings x = Trial.canal("f00t" + cell + "00");
            Trial.asks("from 0 to 7", x, x.night(0, 0, 7, 0), cell - (7 - cell));
            Trial.asks("from 7 to 0", x, x.night(0, 7, 0, 0), 7 - cell - cell);
        }
    }

    /** "not beyond CELLS": whoever would MOVE it on from 7, back from 0, must let it lie or MOVE it otherwise. */
    private static void nightEnds() {
        for (int n = 1; n <= 3; n++) {
            CanalRings x = Trial.canal("f00t000t700");
            // The first one lets it lie by the other's GATE; the other one has the last turn.
            Trial.asks("in 0, n " + n, x, x.night(0, 7, 0, n), 6 - 1);
            Trial.asks("in 7, n " + n, x, x.night(1, 0, 7, n), 6 - 1);
            // It lies by the first one's GATE: he brings it one CELL on, the other one back.
            Trial.asks("in 0, by the first one's, n " + n, x, x.night(0, 0, 7, n), -7);
            Trial.asks("in 7, by the first one's, n " + n, x, x.night(1, 7, 0, n), -7);
        }
    }

    /** Each CELL, each two GATES, each n, by trying all that both can do. */
    private static void nightAll() {
        for (int cell = 0; cell < 8; cell++) {
            for (int gate = 0; gate < 8; gate++) {
                CanalRings x = Trial.canal("f99t" + cell + "00");
                for (int other = 0; other < 8; other++) {
                    for (int n = 0; n <= 3 && other != gate; n++) {
                        Trial.asks("night " + cell + " " + gate + " " + other + " " + n, x,
                            x.night(0, gate, other, n), best(cell, gate, other, 2 * n));
                    }
                }
            }
        }
    }

    private static int best(int cell, int gate, int other, int turns) {
        if (turns == 0) return Math.abs(cell - gate) - Math.abs(cell - other);
        boolean firstOne = turns % 2 == 0;
        int best = firstOne ? -99 : 99;
        for (int to = Math.max(0, cell - 1); to <= Math.min(7, cell + 1); to++) {
            int then = best(to, gate, other, turns - 1);
            best = firstOne ? Math.max(best, then) : Math.min(best, then);
        }
        return best;
    }

    /** "BAD; STATE: it is TAKEN." */
    private static void nightRefusals() {
        Edge.refused("TAKEN", RICH, x -> x.night(5, 0, 7, 0), Edge.STATE);
        Edge.refused("TAKEN, 3", RICH, x -> x.night(5, 0, 7, 3), Edge.STATE);
        Edge.refused("BAD ahead of STATE, like GATES", RICH, x -> x.night(5, 4, 4, 0), Edge.BAD);
        Edge.refused("BAD ahead of STATE, gate 8", RICH, x -> x.night(5, 8, 4, 0), Edge.BAD);
        Edge.refused("BAD ahead of STATE, gate -1", RICH, x -> x.night(5, -1, 4, 0), Edge.BAD);
        Edge.refused("BAD ahead of STATE, other 8", RICH, x -> x.night(5, 4, 8, 0), Edge.BAD);
        Edge.refused("BAD ahead of STATE, other -1", RICH, x -> x.night(5, 4, -1, 0), Edge.BAD);
        Edge.refused("BAD ahead of STATE, n 4", RICH, x -> x.night(5, 0, 7, 4), Edge.BAD);
        Edge.refused("BAD ahead of STATE, n -1", RICH, x -> x.night(5, 0, 7, -1), Edge.BAD);
        Edge.refused("no THINGS", BARE, x -> x.night(0, 0, 7, 0), Edge.BAD);
    }
}
