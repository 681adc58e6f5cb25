import java.util.function.Supplier;

/** Boundary cases of promises 1 to 9: a new object, rows, texts. A method for each sentence. */
public final class EdgeRowsTextsTest {
    private static final Supplier<CanalRings> BARE = CanalRings::new;
    private static final Supplier<CanalRings> RICH = Edge::rich;
    private static final Supplier<CanalRings> ROWS_OF_40 = () -> Edge.allRows(40);
    private static final Supplier<CanalRings> ROWS_OF_1 = () -> Edge.allRows(1);
    private static final Supplier<CanalRings> ROWS_OF_0 = () -> Edge.allRows(0);
    private static final Supplier<CanalRings> TEXTS_OF_60 = () -> Edge.allTexts(60);
    private static final Supplier<CanalRings> TEXTS_OF_0 = () -> Edge.allTexts(0);

    public static void main(String[] args) {
        newObject();
        rowNumbers();
        rowSizes();
        rowIsAnew();
        rowOrder();
        layPlaces();
        layValues();
        layOrder();
        atPlaces();
        atOrder();
        tear();
        copyNumbers();
        copySizes();
        copyBeginnings();
        copyWrapAround();
        copyOverlaps();
        copyOrder();
        meanOfFew();
        meanCut();
        meanLongSums();
        meanRefusals();
        textNumbers();
        textSizes();
        textIsAnew();
        textOrder();
        putPlaces();
        putCut();
        putOrder();
        Trial.end("EdgeRowsTextsTest");
    }

    /** "No ROWS, TEXTS, THINGS." "... or missing (at first)." */
    private static void newObject() {
        for (int k = 0; k < 6; k++) {
            int r = k;
            Edge.finds("new at(" + r + ", 0)", BARE, x -> x.at(r, 0), Edge.NOTHING);
            Edge.finds("new lay(" + r + ", 0, 0)", BARE, x -> x.lay(r, 0, 0), Edge.NOTHING);
            Edge.finds("new tear(" + r + ")", BARE, x -> x.tear(r), Edge.NOTHING);
            Edge.finds("new mean(" + r + ")", BARE, x -> x.mean(r), Edge.NOTHING);
        }
        for (int k = 0; k < 4; k++) {
            int t = k;
            Edge.finds("new put(" + t + ", 0, 0)", BARE, x -> x.put(t, 0, 0), Edge.NOTHING);
            Edge.finds("new fault(" + t + ")", BARE, x -> x.fault(t), Edge.NOTHING);
            Edge.finds("new canal(" + t + ")", BARE, x -> x.canal(t), Edge.NOTHING);
        }
        for (int k = 0; k < 3; k++) {
            int place = k;
            Edge.finds("new on(" + k + ")", BARE, x -> x.on(place), Edge.NOTHING);
        }
        Edge.refused("new thing(0, 0)", BARE, x -> x.thing(0, 0), Edge.BAD);
        Edge.refused("new mark(0, 1)", BARE, x -> x.mark(0, 1), Edge.BAD);
        for (int what = 0; what <= 10; what++) Trial.due("new count(" + what + ")", BARE.get().count(what), 0);
        for (int c = 0; c < 8; c++) Trial.due("new cell(" + c + ")", BARE.get().cell(c), 0);
    }

    /** "ROWS 0 .. 5" */
    private static void rowNumbers() {
        Edge.range("row(r, 3)", BARE, (x, r) -> x.row(r, 3), 0, 3, 5, 3);
        Edge.range("row(r, 3), rich", RICH, (x, r) -> x.row(r, 3), 0, 3, 5, 3);
    }

    /** "A ROW is there with n ints 0: n. BAD: also n above 40; SIZE: below 0." */
    private static void rowSizes() {
        for (int n = 0; n <= 40; n++) {
            CanalRings x = new CanalRings();
            Trial.due("row(2, " + n + ")", x.row(2, n), n);
            Trial.due("it is there", x.count(8), 1);
            for (int i = 0; i < n; i++) Trial.asks("place " + i + " of " + n, x, x.at(2, i), 0);
            Trial.due("no place " + n, x.at(2, n), Edge.FINDING);
            Trial.due("no place " + n + ", finding()", x.finding(), Edge.BEYOND);
        }
        for (int n : new int[] {41, 42, 60, 61, 1 << 16, Edge.MOST}) {
            Edge.refused("row(2, " + n + ")", BARE, x -> x.row(2, n), Edge.BAD);
            Edge.refused("row(3, " + n + ") of one that is there", RICH, x -> x.row(3, n), Edge.BAD);
        }
        for (int n : new int[] {-1, -2, -40, -41, Edge.LEAST}) {
            Edge.finds("row(2, " + n + ")", BARE, x -> x.row(2, n), Edge.SIZE);
            Edge.finds("row(3, " + n + ") of one that is there", RICH, x -> x.row(3, n), Edge.SIZE);
        }
    }

    /** A ROW that is there is made anew: shorter, longer, as long, each place 0. */
    private static void rowIsAnew() {
        int[][] sizes = {{40, 40, 40}, {40, 0, 40}, {40, 1, 40}, {1, 40, 40}, {0, 40, 40}};
        for (int[] three : sizes) {
            CanalRings x = new CanalRings();
            for (int n : three) {
                Trial.due("row(4, " + n + ") anew", x.row(4, n), n);
                for (int i = 0; i < n; i++) Trial.asks("place " + i + " anew", x, x.lay(4, i, 1 + i), 0);
            }
            Trial.due("one ROW alone", x.count(8), 1);
        }
    }

    private static void rowOrder() {
        for (int r : new int[] {-1, 6}) {
            Edge.refused("BAD ahead of SIZE", BARE, x -> x.row(r, -1), Edge.BAD);
            Edge.refused("BAD ahead of SIZE, least", BARE, x -> x.row(r, Edge.LEAST), Edge.BAD);
            Edge.refused("both BAD", BARE, x -> x.row(r, 41), Edge.BAD);
        }
    }

    /** "Place i of a ROW is v ... BEYOND": 0 is the first place, the size less 1 the last one. */
    private static void layPlaces() {
        Edge.range("lay(r, 0, 5)", ROWS_OF_1, (x, r) -> x.lay(r, 0, 5), 0, 1, 5, 1);
        Trial.due("the first of 40", ROWS_OF_40.get().lay(5, 0, 5), 1);
        Trial.due("the last of 40", ROWS_OF_40.get().lay(5, 39, 5), 1);
        for (int i : new int[] {-1, 40, 41, Edge.LEAST, Edge.MOST}) {
            Edge.finds("lay(0, " + i + ") of 40", ROWS_OF_40, x -> x.lay(0, i, 5), Edge.BEYOND);
        }
        for (int i : new int[] {-1, 1, 39}) {
            Edge.finds("lay(0, " + i + ") of 1", ROWS_OF_1, x -> x.lay(0, i, 5), Edge.BEYOND);
        }
        for (int i : new int[] {-1, 0, 1}) {
            Edge.finds("lay(0, " + i + ") of none", ROWS_OF_0, x -> x.lay(0, i, 5), Edge.BEYOND);
        }
        Edge.finds("lay(0, 3) of 3", RICH, x -> x.lay(0, 3, 5), Edge.BEYOND);
        CanalRings shorter = Edge.allRows(40);
        shorter.row(0, 7);
        Trial.due("the last of 7", shorter.lay(0, 6, 1), 1);
        Trial.due("behind 7, where there were 40", shorter.lay(0, 7, 1), Edge.FINDING);
    }

    /** "what it was, told by asked(): 1": any int, and no other place. */
    private static void layValues() {
        CanalRings x = Edge.allRows(3);
        int before = 0;
        for (int v : new int[] {Edge.LEAST, Edge.MOST, -1, 1, 0, Edge.MOST, Edge.LEAST}) {
            Trial.asks("lay(1, 1, " + v + ")", x, x.lay(1, 1, v), before);
            before = v;
        }
        Trial.rowIs("no other place", x, 1, 0, Edge.LEAST, 0);
        Trial.rowIs("no other ROW ahead", x, 0, 0, 0, 0);
        Trial.rowIs("no other ROW behind", x, 2, 0, 0, 0);
    }

    /** "BAD; NOTHING; BEYOND." */
    private static void layOrder() {
        for (int r : new int[] {-1, 6}) {
            Edge.refused("BAD ahead of NOTHING", BARE, x -> x.lay(r, 0, 1), Edge.BAD);
            Edge.refused("BAD ahead of BEYOND", ROWS_OF_1, x -> x.lay(r, 1, 1), Edge.BAD);
        }
        Edge.finds("NOTHING ahead of BEYOND, below", RICH, x -> x.lay(2, -1, 1), Edge.NOTHING);
        Edge.finds("NOTHING ahead of BEYOND, above", RICH, x -> x.lay(2, 40, 1), Edge.NOTHING);
    }

    private static void atPlaces() {
        Edge.range("at(r, 0)", ROWS_OF_1, (x, r) -> x.at(r, 0), 0, 1, 5, 1);
        CanalRings full = Edge.allRows(40);
        for (int i = 0; i < 40; i++) Trial.asks("lay " + i, full, full.lay(2, i, i * i - 700), 0);
        for (int i = 0; i < 40; i++) Trial.asks("at " + i, full, full.at(2, i), i * i - 700);
        for (int i : new int[] {-1, 40, 41, Edge.LEAST, Edge.MOST}) {
            Edge.finds("at(0, " + i + ") of 40", ROWS_OF_40, x -> x.at(0, i), Edge.BEYOND);
        }
        for (int i : new int[] {-1, 1, 39}) Edge.finds("at of 1", ROWS_OF_1, x -> x.at(0, i), Edge.BEYOND);
        for (int i : new int[] {-1, 0, 1}) Edge.finds("at of none", ROWS_OF_0, x -> x.at(0, i), Edge.BEYOND);
        Edge.finds("at(0, 3) of 3", RICH, x -> x.at(0, 3), Edge.BEYOND);
    }

    private static void atOrder() {
        for (int r : new int[] {-1, 6}) {
            Edge.refused("BAD ahead of NOTHING", BARE, x -> x.at(r, 0), Edge.BAD);
            Edge.refused("BAD ahead of BEYOND", ROWS_OF_1, x -> x.at(r, -1), Edge.BAD);
        }
        Edge.finds("NOTHING ahead of BEYOND, below", RICH, x -> x.at(4, -1), Edge.NOTHING);
        Edge.finds("NOTHING ahead of BEYOND, above", RICH, x -> x.at(4, Edge.MOST), Edge.NOTHING);
    }

    /** "A ROW is missing: 1. BAD; NOTHING." */
    private static void tear() {
        Edge.range("tear(r) of 40", ROWS_OF_40, (x, r) -> x.tear(r), 0, 1, 5, 1);
        Edge.range("tear(r) of none", ROWS_OF_0, (x, r) -> x.tear(r), 0, 1, 5, 1);
        CanalRings x = Edge.allRows(2);
        for (int r = 0; r < 6; r++) {
            Trial.due("tear(" + r + ")", x.tear(r), 1);
            Trial.due("one fewer", x.count(8), 5 - r);
            Trial.due("twice", x.tear(r), Edge.FINDING);
            Trial.due("NOTHING", x.finding(), Edge.NOTHING);
        }
        Edge.finds("a missing one among others", RICH, y -> y.tear(2), Edge.NOTHING);
        Edge.refused("BAD ahead of NOTHING", BARE, y -> y.tear(6), Edge.BAD);
    }

    /** Either number of a ROW, both ends. */
    private static void copyNumbers() {
        Edge.range("copy(r, 0, 2, 0, 1)", ROWS_OF_1, (x, r) -> x.copy(r, 0, 2, 0, 1), 0, 1, 5, 1);
        Edge.range("copy(2, 0, to, 0, 1)", ROWS_OF_1, (x, to) -> x.copy(2, 0, to, 0, 1), 0, 1, 5, 1);
    }

    /** "n places": none, one, 40; "SIZE: n below 0"; more than there are is BEYOND, not BAD. */
    private static void copySizes() {
        Trial.due("none of none", ROWS_OF_0.get().copy(0, 0, 1, 0, 0), 1);
        Edge.aside("none of 40", ROWS_OF_40, x -> x.copy(0, 7, 1, 9, 0), 1);
        Trial.due("40 of 40", ROWS_OF_40.get().copy(0, 0, 1, 0, 40), 1);
        Trial.due("40 onto themselves", ROWS_OF_40.get().copy(3, 0, 3, 0, 40), 1);
        Edge.finds("41 of 40", ROWS_OF_40, x -> x.copy(0, 0, 1, 0, 41), Edge.BEYOND);
        Edge.finds("2 of 1", ROWS_OF_1, x -> x.copy(0, 0, 1, 0, 2), Edge.BEYOND);
        Edge.finds("1 of none", ROWS_OF_0, x -> x.copy(0, 0, 1, 0, 1), Edge.BEYOND);
        Edge.finds("most of 40", ROWS_OF_40, x -> x.copy(0, 0, 1, 0, Edge.MOST), Edge.BEYOND);
        Edge.finds("-1", ROWS_OF_40, x -> x.copy(0, 0, 1, 0, -1), Edge.SIZE);
        Edge.finds("least", ROWS_OF_40, x -> x.copy(0, 0, 1, 0, Edge.LEAST), Edge.SIZE);
        CanalRings x = new CanalRings();
        x.row(0, 40);
        x.row(1, 40);
        for (int i = 0; i < 40; i++) x.lay(0, i, i + 1);
        Trial.due("all but the ends", x.copy(0, 0, 1, 1, 39), 1);
        for (int i = 0; i < 40; i++) Trial.asks("place " + i, x, x.at(1, i), i);
    }

    /** "BEYOND: not so many there", in either ROW, at either end. */
    private static void copyBeginnings() {
        Trial.due("the last one to the first", ROWS_OF_40.get().copy(0, 39, 1, 0, 1), 1);
        Trial.due("the first one to the last", ROWS_OF_40.get().copy(0, 0, 1, 39, 1), 1);
        Trial.due("none from the end", ROWS_OF_40.get().copy(0, 40, 1, 40, 0), 1);
        Edge.finds("from 40, one", ROWS_OF_40, x -> x.copy(0, 40, 1, 0, 1), Edge.BEYOND);
        Edge.finds("to 40, one", ROWS_OF_40, x -> x.copy(0, 0, 1, 40, 1), Edge.BEYOND);
        Edge.finds("from 39, two", ROWS_OF_40, x -> x.copy(0, 39, 1, 0, 2), Edge.BEYOND);
        Edge.finds("to 39, two", ROWS_OF_40, x -> x.copy(0, 0, 1, 39, 2), Edge.BEYOND);
        Edge.finds("from 41, none", ROWS_OF_40, x -> x.copy(0, 41, 1, 0, 0), Edge.BEYOND);
        Edge.finds("to 41, none", ROWS_OF_40, x -> x.copy(0, 0, 1, 41, 0), Edge.BEYOND);
        for (int n : new int[] {0, 1, 2, 40}) {
            Edge.finds("from -1, " + n, ROWS_OF_40, x -> x.copy(0, -1, 1, 0, n), Edge.BEYOND);
            Edge.finds("to -1, " + n, ROWS_OF_40, x -> x.copy(0, 0, 1, -1, n), Edge.BEYOND);
        }
        Supplier<CanalRings> uneven = () -> {
            CanalRings x = new CanalRings();
            Trial.layAll(x, 0, 1, 2, 3, 4, 5);
            Trial.layAll(x, 1, 6, 7, 8);
            return x;
        };
        Trial.due("3 of 5 to 3", uneven.get().copy(0, 2, 1, 0, 3), 1);
        Edge.finds("4 of 5 to 3", uneven, x -> x.copy(0, 0, 1, 0, 4), Edge.BEYOND);
        Trial.due("3 of 3 to 5", uneven.get().copy(1, 0, 0, 2, 3), 1);
        Edge.finds("4 of 3 to 5", uneven, x -> x.copy(1, 0, 0, 0, 4), Edge.BEYOND);
        Edge.finds("3 of 3 to 5, one too far", uneven, x -> x.copy(1, 0, 0, 3, 3), Edge.BEYOND);
    }

    /** Sums that wrap around are still BEYOND. */
    private static void copyWrapAround() {
        int[] far = {Edge.MOST, Edge.MOST - 1, Edge.LEAST, Edge.LEAST + 40, 1 << 30};
        for (int i : far) {
            for (int n : new int[] {0, 1, 40, Edge.MOST, 1 << 30}) {
                Edge.finds("from " + i + ", " + n, ROWS_OF_40, x -> x.copy(0, i, 1, 0, n), Edge.BEYOND);
                Edge.finds("to " + i + ", " + n, ROWS_OF_40, x -> x.copy(0, 0, 1, i, n), Edge.BEYOND);
            }
        }
        Edge.finds("from 1, most", ROWS_OF_40, x -> x.copy(0, 1, 1, 1, Edge.MOST), Edge.BEYOND);
        Edge.finds("from 39, most", ROWS_OF_40, x -> x.copy(0, 39, 1, 39, Edge.MOST), Edge.BEYOND);
    }

    /** "perhaps itself ... as if taken ahead", by one place and by many, on and back. */
    private static void copyOverlaps() {
        for (int by : new int[] {1, 2, 19, 39}) {
            CanalRings on = Edge.allRows(40);
            CanalRings back = Edge.allRows(40);
            for (int i = 0; i < 40; i++) on.lay(0, i, i);
            for (int i = 0; i < 40; i++) back.lay(0, i, i);
            Trial.due("on by " + by, on.copy(0, 0, 0, by, 40 - by), 1);
            Trial.due("back by " + by, back.copy(0, by, 0, 0, 40 - by), 1);
            for (int i = 0; i < 40; i++) {
                Trial.asks("on " + i, on, on.at(0, i), i < by ? i : i - by);
                Trial.asks("back " + i, back, back.at(0, i), i < 40 - by ? i + by : i);
            }
        }
    }

    /** "BAD; SIZE: n below 0; NOTHING: either; BEYOND": each ahead of each that comes later. */
    private static void copyOrder() {
        for (int r : new int[] {-1, 6}) {
            Edge.refused("BAD ahead of SIZE, from", ROWS_OF_1, x -> x.copy(r, 0, 0, 0, -1), Edge.BAD);
            Edge.refused("BAD ahead of SIZE, to", ROWS_OF_1, x -> x.copy(0, 0, r, 0, -1), Edge.BAD);
            Edge.refused("BAD ahead of NOTHING, from", RICH, x -> x.copy(r, 0, 2, 0, 1), Edge.BAD);
            Edge.refused("BAD ahead of NOTHING, to", RICH, x -> x.copy(2, 0, r, 0, 1), Edge.BAD);
            Edge.refused("BAD ahead of BEYOND, from", ROWS_OF_1, x -> x.copy(r, 0, 0, 9, 1), Edge.BAD);
            Edge.refused("BAD ahead of BEYOND, to", ROWS_OF_1, x -> x.copy(0, 9, r, 0, 1), Edge.BAD);
        }
        Edge.finds("SIZE ahead of NOTHING, from", RICH, x -> x.copy(2, 0, 0, 0, -1), Edge.SIZE);
        Edge.finds("SIZE ahead of NOTHING, to", RICH, x -> x.copy(0, 0, 2, 0, -1), Edge.SIZE);
        Edge.finds("SIZE ahead of BEYOND", RICH, x -> x.copy(0, 9, 3, -1, -1), Edge.SIZE);
        Edge.finds("NOTHING, from", RICH, x -> x.copy(2, 0, 0, 0, 1), Edge.NOTHING);
        Edge.finds("NOTHING, to", RICH, x -> x.copy(0, 0, 2, 0, 1), Edge.NOTHING);
        Edge.finds("NOTHING, both", RICH, x -> x.copy(2, 0, 4, 0, 0), Edge.NOTHING);
        Edge.finds("NOTHING, both the same", RICH, x -> x.copy(2, 0, 2, 0, 0), Edge.NOTHING);
        Edge.finds("NOTHING, to, ahead of BEYOND, from", RICH, x -> x.copy(0, 9, 2, 0, 1), Edge.NOTHING);
        Edge.finds("NOTHING, from, ahead of BEYOND, to", RICH, x -> x.copy(2, 0, 0, 9, 1), Edge.NOTHING);
    }

    private static void mean(int want, int... numbers) {
        CanalRings x = new CanalRings();
        Trial.layAll(x, 5, numbers);
        Trial.asks("mean of " + numbers.length, x, x.mean(5), want);
    }

    private static int[] like(int v, int many) {
        int[] all = new int[many];
        java.util.Arrays.fill(all, v);
        return all;
    }

    private static void meanOfFew() {
        for (int v : new int[] {0, 1, -1, Edge.MOST, Edge.LEAST}) {
            mean(v, v);
            mean(v, like(v, 40));
        }
    }

    /** "cut": towards 0, from above and from below. */
    private static void meanCut() {
        mean(0, 0, 1);
        mean(0, 0, -1);
        mean(1, 1, 2);
        mean(-1, -1, -2);
        mean(0, 1, 1, 0);
        mean(0, -1, -1, 0);
        int[] forty = new int[40];
        for (int top : new int[] {39, 40, 79, 80, -39, -40, -79, -80}) {
            forty[39] = top;
            mean(Math.abs(top) < 40 ? 0 : (Math.abs(top) < 80 ? 1 : 2) * (top > 0 ? 1 : -1), forty);
        }
    }

    /** Sums beyond an int: none of them wraps around. */
    private static void meanLongSums() {
        mean(Edge.MOST, Edge.MOST, Edge.MOST);
        mean(Edge.LEAST, Edge.LEAST, Edge.LEAST);
        mean(0, Edge.MOST, Edge.LEAST);
        mean(0, Edge.MOST, Edge.LEAST, 1);
        mean(1 << 30, Edge.MOST, 1);
        mean(-(1 << 30), Edge.LEAST, 0);
        int[] mixed = like(Edge.MOST, 40);
        mixed[0] = Edge.LEAST;
        // 39 times 2147483647 less 2147483648 is 81604378585, a fortieth of it 2040109464.6.
        mean(2040109464, mixed);
    }

    /** "BAD; NOTHING; NOUGHT." */
    private static void meanRefusals() {
        Edge.range("mean(r)", ROWS_OF_1, (x, r) -> x.mean(r), 0, 1, 5, 1);
        Edge.finds("none", ROWS_OF_0, x -> x.mean(0), Edge.NOUGHT);
        Edge.finds("none, rich", RICH, x -> x.mean(1), Edge.NOUGHT);
        Edge.finds("missing, rich", RICH, x -> x.mean(2), Edge.NOTHING);
        Edge.refused("BAD ahead of NOTHING", BARE, x -> x.mean(6), Edge.BAD);
        CanalRings torn = Edge.allRows(0);
        torn.tear(3);
        Trial.due("an empty one torn", torn.mean(3), Edge.FINDING);
        Trial.due("is NOTHING, not NOUGHT", torn.finding(), Edge.NOTHING);
    }

    /** "TEXTS 0 .. 3" */
    private static void textNumbers() {
        Edge.range("text(t, 3)", BARE, (x, t) -> x.text(t, 3), 0, 3, 3, 3);
        Edge.range("text(t, 3), rich", RICH, (x, t) -> x.text(t, 3), 0, 3, 3, 3);
    }

    /** "A TEXT is there with n blanks: n. BAD: also n above 60; SIZE: below 0." */
    private static void textSizes() {
        for (int n = 0; n <= 60; n++) {
            CanalRings x = new CanalRings();
            Trial.due("text(2, " + n + ")", x.text(2, n), n);
            Trial.due("it is there", x.count(9), 1);
            for (int i = 0; i < n; i++) Trial.due("a blank", x.put(2, i, 7), 1032);
            Trial.due("no place " + n, x.put(2, n, 7), Edge.FINDING);
            Trial.due("no place " + n + ", finding()", x.finding(), Edge.BEYOND);
        }
        for (int n : new int[] {61, 62, 1 << 16, Edge.MOST}) {
            Edge.refused("text(2, " + n + ")", BARE, x -> x.text(2, n), Edge.BAD);
            Edge.refused("text(3, " + n + ") of one that is there", RICH, x -> x.text(3, n), Edge.BAD);
        }
        for (int n : new int[] {-1, -2, -60, -61, Edge.LEAST}) {
            Edge.finds("text(2, " + n + ")", BARE, x -> x.text(2, n), Edge.SIZE);
            Edge.finds("text(3, " + n + ") of one that is there", RICH, x -> x.text(3, n), Edge.SIZE);
        }
    }

    private static void textIsAnew() {
        int[][] sizes = {{60, 60, 60}, {60, 0, 60}, {60, 1, 60}, {1, 60, 60}, {0, 60, 60}};
        for (int[] three : sizes) {
            CanalRings x = new CanalRings();
            for (int n : three) {
                Trial.due("text(1, " + n + ") anew", x.text(1, n), n);
                for (int i = 0; i < n; i++) Trial.due("place " + i + " anew", x.put(1, i, 1 + i), 1032);
            }
            Trial.due("one TEXT alone", x.count(9), 1);
        }
    }

    private static void textOrder() {
        for (int t : new int[] {-1, 4}) {
            Edge.refused("BAD ahead of SIZE", BARE, x -> x.text(t, -1), Edge.BAD);
            Edge.refused("BAD ahead of SIZE, least", BARE, x -> x.text(t, Edge.LEAST), Edge.BAD);
            Edge.refused("both BAD", BARE, x -> x.text(t, 61), Edge.BAD);
        }
    }

    private static void putPlaces() {
        Edge.range("put(t, 0, 5)", TEXTS_OF_60, (x, t) -> x.put(t, 0, 5), 0, 1032, 3, 1032);
        Trial.due("the last of 60", TEXTS_OF_60.get().put(3, 59, 5), 1032);
        for (int i : new int[] {-1, 60, 61, Edge.LEAST, Edge.MOST}) {
            Edge.finds("put(0, " + i + ") of 60", TEXTS_OF_60, x -> x.put(0, i, 5), Edge.BEYOND);
        }
        for (int i : new int[] {-1, 0, 1}) Edge.finds("put of none", TEXTS_OF_0, x -> x.put(0, i, 5), Edge.BEYOND);
        CanalRings shorter = Edge.allTexts(60);
        shorter.text(0, 7);
        Trial.due("the last of 7", shorter.put(0, 6, 1), 1032);
        Trial.due("behind 7, where there were 60", shorter.put(0, 7, 1), Edge.FINDING);
    }

    /** "v, cut to a byte: what it was, and 1000 more." A byte goes from -128 to 127. */
    private static void putCut() {
        int[][] cuts = {{0, 0}, {1, 1}, {-1, -1}, {127, 127}, {128, -128}, {129, -127}, {255, -1}, {256, 0}, {257, 1},
            {-128, -128}, {-129, 127}, {-255, 1}, {-256, 0}, {-257, -1}, {383, 127}, {384, -128},
            {Edge.MOST, -1}, {Edge.LEAST, 0}, {Edge.MOST - 128, 127}, {Edge.LEAST + 128, -128}};
        CanalRings x = Edge.allTexts(3);
        int before = 32;
        for (int[] cut : cuts) {
            Trial.due("put(1, 1, " + cut[0] + ")", x.put(1, 1, cut[0]), before + 1000);
            before = cut[1];
        }
        Trial.due("the last of them", x.put(1, 1, 32), before + 1000);
        Trial.due("no place ahead", x.put(1, 0, 32), 1032);
        Trial.due("no place behind", x.put(1, 2, 32), 1032);
        Trial.due("no TEXT ahead", x.put(0, 1, 32), 1032);
        Trial.due("no TEXT behind", x.put(2, 1, 32), 1032);
    }

    /** "BAD; NOTHING; BEYOND." */
    private static void putOrder() {
        for (int t : new int[] {-1, 4}) {
            Edge.refused("BAD ahead of NOTHING", BARE, x -> x.put(t, 0, 1), Edge.BAD);
            Edge.refused("BAD ahead of BEYOND", TEXTS_OF_0, x -> x.put(t, 0, 1), Edge.BAD);
        }
        Edge.finds("NOTHING ahead of BEYOND, below", RICH, x -> x.put(2, -1, 1), Edge.NOTHING);
        Edge.finds("NOTHING ahead of BEYOND, above", RICH, x -> x.put(2, 60, 1), Edge.NOTHING);
    }
}
