import java.util.function.Supplier;

/** Boundary cases of promises 15 to 21: the DEEDS, 40 at most, undone, kept, gone on from. */
public final class EdgeDeedsTest {
    private static final Supplier<CanalRings> BARE = CanalRings::new;
    private static final Supplier<CanalRings> RICH = Edge::rich;
    private static final Supplier<CanalRings> SIX = Edge.canal(Trial.SIX);
    /** Level 0, thing 0 in the midst, 1 at the end, 2 at the beginning, 3 TAKEN, 40 DEEDS. */
    private static final Supplier<CanalRings> FULL_LOW = () -> {
        CanalRings x = Trial.canal("f90t300t700t000t300");
        x.take(3);
        for (int k = 0; k < 39; k++) Trial.due("paddle(0)", x.paddle(0), 0);
        return x;
    };
    private static final Supplier<CanalRings> FULL_HIGH = Edge.full("f90t300t700", x -> x.take(1));

    public static void main(String[] args) {
        yearAtFirst();
        yearRefusals();
        paddleNumbers();
        fillAndDraw();
        paddleRefusals();
        moveNumbers();
        moveEnds();
        moveRefusals();
        takeNumbers();
        takeWays();
        takeLevels();
        takeRefusals();
        fortiethDeed();
        fullBarsDeedsAlone();
        undoNumbers();
        undoEmpty();
        undoFull();
        undoThenOn();
        keepNumbers();
        keepEmptyAndFull();
        keepRefusals();
        onNumbers();
        onIsAsKept();
        onRefusals();
        Trial.end("EdgeDeedsTest");
    }

    /** "YEAR 0 is at first." "A YEAR: the YEAR then." */
    private static void yearAtFirst() {
        CanalRings x = SIX.get();
        Trial.due("the YEAR at first", x.count(1), 0);
        Trial.due("the first one", x.year(), 1);
        Trial.due("one DEED", x.count(2), 1);
        CanalRings most = SIX.get();
        for (int year = 1; year <= 40; year++) Trial.due("year()", most.year(), year);
        Trial.due("YEAR 40", most.count(1), 40);
        Trial.due("none more", most.year(), Edge.FULL);
        Trial.due("YEAR 40 still", most.count(1), 40);
    }

    /** "STATE: no THINGS; FULL: 40 DEEDS." */
    private static void yearRefusals() {
        Edge.refused("no THINGS", BARE, x -> x.year(), Edge.STATE);
        Edge.refused("40 DEEDS", FULL_LOW, x -> x.year(), Edge.FULL);
        Trial.due("39 DEEDS", Edge.withDeeds(Trial.SIX, 39).get().year(), 1);
        Edge.refused("40 DEEDS, high", Edge.withDeeds(Trial.SIX, 40), x -> x.year(), Edge.FULL);
        CanalRings taken = Edge.canal("f90t300", x -> x.take(0)).get();
        Trial.due("all are TAKEN, but there are THINGS", taken.year(), 1);
    }

    private static void paddleNumbers() {
        Edge.range("paddle(fill)", SIX, (x, fill) -> x.paddle(fill), 0, 4, 1, 9);
        for (int fill : new int[] {0, 1}) {
            Edge.refused("no THINGS", BARE, x -> x.paddle(fill), Edge.STATE);
        }
    }

    /** "FILL (the LEVEL is 3 more, 9 at most), or DRAW (2 less, 0 at least)": from each LEVEL; each is a DEED. */
    private static void fillAndDraw() {
        int[] filled = {3, 4, 5, 6, 7, 8, 9, 9, 9, 9};
        int[] drawn = {0, 0, 0, 1, 2, 3, 4, 5, 6, 7};
        for (int level = 0; level <= 9; level++) {
            for (int fill = 0; fill < 2; fill++) {
                CanalRings x = Trial.canal("f0" + level + "t000");
                int then = fill == 1 ? filled[level] : drawn[level];
                Trial.due("paddle(" + fill + ") at " + level, x.paddle(fill), then);
                Trial.due("the LEVEL then", x.count(3), then);
                Trial.due("a DEED, though it may change nothing", x.count(2), 1);
                Trial.due("no YEAR", x.count(1), 0);
                Trial.due("undone", x.undo(0), 1);
                Trial.due("the LEVEL as before", x.count(3), level);
            }
        }
    }

    /** "BAD; STATE: no THINGS; FULL. (FULL last.)" */
    private static void paddleRefusals() {
        for (int fill : new int[] {-1, 2}) {
            Edge.refused("BAD ahead of STATE", BARE, x -> x.paddle(fill), Edge.BAD);
            Edge.refused("BAD ahead of FULL", FULL_LOW, x -> x.paddle(fill), Edge.BAD);
        }
        for (int fill : new int[] {0, 1}) {
            Edge.refused("FULL, low", FULL_LOW, x -> x.paddle(fill), Edge.FULL);
            Edge.refused("FULL, high", FULL_HIGH, x -> x.paddle(fill), Edge.FULL);
        }
    }

    /** "on (1), or back (-1)": 0 is neither. */
    private static void moveNumbers() {
        Supplier<CanalRings> midst = Edge.canal("f00t300t300t300t300t300t300");
        Edge.range("move(i, 1)", midst, (x, i) -> x.move(i, 1), 0, 4, 5, 4);
        Edge.range("move(i, -1)", midst, (x, i) -> x.move(i, -1), 0, 2, 5, 2);
        Edge.range("move(0, by)", midst, (x, by) -> x.move(0, by), -1, 2, 1, 4);
        Edge.refused("move(0, 0)", midst, x -> x.move(0, 0), Edge.BAD);
        Edge.refused("no THINGS", BARE, x -> x.move(0, 1), Edge.BAD);
    }

    /** "STATE: ... or would be beyond CELLS"; the LEVEL is aside. */
    private static void moveEnds() {
        for (int level : new int[] {0, 9}) {
            for (int cell = 0; cell < 8; cell++) {
                Supplier<CanalRings> made = Edge.canal("f0" + level + "r" + cell + "00");
                if (cell < 7) Trial.due("on from " + cell, made.get().move(0, 1), cell + 1);
                else Edge.refused("on from 7", made, x -> x.move(0, 1), Edge.STATE);
                if (cell > 0) Trial.due("back from " + cell, made.get().move(0, -1), cell - 1);
                else Edge.refused("back from 0", made, x -> x.move(0, -1), Edge.STATE);
            }
        }
        CanalRings there = Trial.canal("f00t000t300");
        for (int cell = 1; cell <= 7; cell++) Trial.due("all the way on", there.move(0, 1), cell);
        for (int cell = 6; cell >= 0; cell--) Trial.due("all the way back", there.move(0, -1), cell);
        Trial.due("no other one moved", there.lies(1, 0), 3);
    }

    /** "BAD; STATE: it is TAKEN, or would be beyond CELLS; FULL. (FULL last.)" */
    private static void moveRefusals() {
        Edge.refused("TAKEN, on", RICH, x -> x.move(5, 1), Edge.STATE);
        Edge.refused("TAKEN, back", RICH, x -> x.move(5, -1), Edge.STATE);
        Edge.refused("BAD ahead of STATE: TAKEN, by 0", RICH, x -> x.move(5, 0), Edge.BAD);
        Edge.refused("BAD ahead of STATE: beyond, by 2", FULL_LOW, x -> x.move(1, 2), Edge.BAD);
        Edge.refused("BAD ahead of FULL: thing 4", FULL_LOW, x -> x.move(4, 1), Edge.BAD);
        Edge.refused("BAD ahead of FULL: thing -1", FULL_LOW, x -> x.move(-1, 1), Edge.BAD);
        Edge.refused("BAD ahead of FULL: by 0", FULL_LOW, x -> x.move(0, 0), Edge.BAD);
        Edge.refused("STATE ahead of FULL: beyond 7", FULL_LOW, x -> x.move(1, 1), Edge.STATE);
        Edge.refused("STATE ahead of FULL: beyond 0", FULL_LOW, x -> x.move(2, -1), Edge.STATE);
        Edge.refused("STATE ahead of FULL: TAKEN, on", FULL_LOW, x -> x.move(3, 1), Edge.STATE);
        Edge.refused("STATE ahead of FULL: TAKEN, back", FULL_LOW, x -> x.move(3, -1), Edge.STATE);
        Edge.refused("FULL: on", FULL_LOW, x -> x.move(0, 1), Edge.FULL);
        Edge.refused("FULL: back", FULL_LOW, x -> x.move(0, -1), Edge.FULL);
        Edge.refused("FULL: back from 7", FULL_LOW, x -> x.move(1, -1), Edge.FULL);
        Edge.refused("FULL: on from 0", FULL_LOW, x -> x.move(2, 1), Edge.FULL);
    }

    private static void takeNumbers() {
        Supplier<CanalRings> low = Edge.canal("f00t301t300t300t300t300t307");
        Edge.range("take(i)", low, (x, i) -> x.take(i), 0, 2, 5, 4);
        Edge.refused("no THINGS", BARE, x -> x.take(0), Edge.BAD);
    }

    /** "how far the CELL was from its GATE": from 0 to 7, on either side. */
    private static void takeWays() {
        for (int cell = 0; cell < 8; cell++) {
            for (int gate = 0; gate < 8; gate++) {
                CanalRings x = Trial.canal("f00s" + cell + "0" + gate);
                Trial.due("from " + cell + " to " + gate, x.take(0), cell > gate ? cell - gate : gate - cell);
                Trial.asks("it lies there no more", x, x.thing(0, 1), Edge.NONE);
            }
        }
    }

    /** "while the LEVEL is 0": at each other one it is refused. */
    private static void takeLevels() {
        Trial.due("level 0", Trial.canal("f00t000").take(0), 0);
        for (int level = 1; level <= 9; level++) {
            Edge.refused("level " + level, Edge.canal("f0" + level + "t000"), x -> x.take(0), Edge.STATE);
        }
        CanalRings drawn = Trial.canal("f01t000");
        Trial.due("drawn from 1", drawn.paddle(0), 0);
        Trial.due("then", drawn.take(0), 0);
        Supplier<CanalRings> filled = Edge.canal("f00t000t000", x -> x.take(0), x -> x.paddle(1));
        Edge.refused("filled again", filled, x -> x.take(1), Edge.STATE);
    }

    /** "BAD; STATE: it is TAKEN, or the LEVEL is above 0; FULL. (FULL last.)" */
    private static void takeRefusals() {
        Supplier<CanalRings> taken = Edge.canal("f00t300t300", x -> x.take(0));
        Edge.refused("TAKEN", taken, x -> x.take(0), Edge.STATE);
        Edge.refused("TAKEN, and the LEVEL above 0", RICH, x -> x.take(5), Edge.STATE);
        Edge.refused("BAD ahead of STATE", RICH, x -> x.take(6), Edge.BAD);
        Edge.refused("BAD ahead of STATE, below", RICH, x -> x.take(-1), Edge.BAD);
        Edge.refused("BAD ahead of FULL", FULL_LOW, x -> x.take(4), Edge.BAD);
        Edge.refused("BAD ahead of FULL, below", FULL_LOW, x -> x.take(-1), Edge.BAD);
        Edge.refused("STATE ahead of FULL: TAKEN", FULL_LOW, x -> x.take(3), Edge.STATE);
        Edge.refused("STATE ahead of FULL: the LEVEL", FULL_HIGH, x -> x.take(0), Edge.STATE);
        Edge.refused("STATE ahead of FULL: both", FULL_HIGH, x -> x.take(1), Edge.STATE);
        Edge.refused("FULL", FULL_LOW, x -> x.take(0), Edge.FULL);
    }

    /** "DEEDS 0, 1, .. (40 at most)": the 40th of each sort is done, the 41st is not. */
    private static void fortiethDeed() {
        String signs = "f90t300t305";
        Edge.Call[] sorts = {x -> x.year(), x -> x.paddle(0), x -> x.paddle(1), x -> x.move(0, 1), x -> x.move(0, -1),
            x -> x.take(1), x -> x.lots(1, 7)};
        for (int k = 0; k < sorts.length; k++) {
            Edge.Call deed = sorts[k];
            Supplier<CanalRings> lacksOne = () -> {
                CanalRings x = Trial.canal(signs);
                for (int n = 0; n < 39; n++) Trial.due("paddle(0)", x.paddle(0), 0);
                return x;
            };
            CanalRings x = lacksOne.get();
            Trial.due("sort " + k + " as the 40th", deed.of(x) >= 0 ? 1 : 0, 1);
            Trial.due("40 DEEDS", x.count(2), 40);
            Supplier<CanalRings> lacksNone = () -> {
                CanalRings y = lacksOne.get();
                y.paddle(0);
                return y;
            };
            Edge.refused("sort " + k + " as the 41st", lacksNone, deed, Edge.FULL);
            Trial.due("the 40th is undone", x.undo(39), 1);
            Trial.due("then there is room", deed.of(x) >= 0 ? 1 : 0, 1);
        }
    }

    /** 40 DEEDS bar further ones, and nothing else. */
    private static void fullBarsDeedsAlone() {
        CanalRings x = FULL_LOW.get();
        Trial.due("40 DEEDS", x.count(2), 40);
        Trial.due("one is TAKEN", x.count(5), 8);
        Trial.due("questions are answered", x.lies(0, 60), 3);
        Trial.due("keep is no DEED", x.keep(0), 40);
        Trial.due("on is no DEED", x.on(0), 40);
        Trial.due("undo of none is none", x.undo(40), 0);
    }

    /** "DEEDS from number n on are undone: how many. BAD." */
    private static void undoNumbers() {
        Edge.range("undo(n) of 9", RICH, (x, n) -> x.undo(n), 0, 9, 9, 0);
        for (int n = 0; n <= 9; n++) {
            CanalRings x = Edge.rich();
            Trial.due("undo(" + n + ") of 9", x.undo(n), 9 - n);
            Trial.due("so many are left", x.count(2), n);
            Trial.due("undo(" + n + ") again", x.undo(n), 0);
            Trial.due("undo of one more", x.undo(n + 1), Edge.BAD);
        }
        Edge.aside("undo of none changes nothing", RICH, x -> x.undo(9), 0);
    }

    private static void undoEmpty() {
        Edge.range("undo(n) of no DEEDS", SIX, (x, n) -> x.undo(n), 0, 0, 0, 0);
        Edge.range("undo(n) without THINGS", BARE, (x, n) -> x.undo(n), 0, 0, 0, 0);
    }

    private static void undoFull() {
        Edge.range("undo(n) of 40", FULL_LOW, (x, n) -> x.undo(n), 0, 40, 40, 0);
        CanalRings x = Trial.canal("f92d705c005b000");
        long[] digests = new long[41];
        for (int n = 0; n < 40; n++) {
            digests[n] = x.digest();
            int sort = n % 5;
            if (sort == 0) x.year();
            if (sort == 1) x.paddle(n % 2);
            if (sort == 2) x.move(0, n < 20 ? -1 : 1);
            if (sort == 3 && x.take(1) < 0) x.paddle(0);
            if (sort == 4) x.year();
            while (x.count(2) <= n) x.paddle(1);
        }
        digests[40] = x.digest();
        for (int n = 39; n >= 0; n--) {
            Trial.due("undo(" + n + ")", x.undo(n), 1);
            Trial.due("all as ahead of DEED " + n, x.digest(), digests[n]);
        }
        Trial.due("none is left", x.undo(0), 0);
    }

    /** Other DEEDS come in place of those that were undone. */
    private static void undoThenOn() {
        CanalRings x = Trial.canal("f00t300t300");
        x.move(0, 1);
        x.move(1, 1);
        x.take(0);
        Trial.due("two are undone", x.undo(1), 2);
        Trial.due("another one", x.move(1, -1), 2);
        Trial.due("undo(2)", x.undo(2), 0);
        Trial.due("thing 0", x.lies(0, 0), 4);
        Trial.due("thing 1", x.lies(1, 0), 2);
        Trial.due("the other one is undone", x.undo(1), 1);
        Trial.due("thing 1 then", x.lies(1, 0), 3);
        Trial.due("thing 0 still", x.lies(0, 0), 4);
    }

    /** "in a place (0 .. 2)" */
    private static void keepNumbers() {
        Edge.range("keep(k)", RICH, (x, k) -> x.keep(k), 0, 9, 2, 9);
        Edge.range("keep(k) at first", SIX, (x, k) -> x.keep(k), 0, 0, 2, 0);
    }

    private static void keepEmptyAndFull() {
        CanalRings x = SIX.get();
        Trial.due("without DEEDS", x.keep(0), 0);
        Trial.fillUpDeeds(x);
        Trial.due("with 40", x.keep(1), 40);
        x.undo(39);
        Trial.due("with 39", x.keep(2), 39);
        Trial.due("three are kept", x.count(10), 3);
        Trial.due("on with 40", x.on(1), 40);
        Trial.due("full", x.year(), Edge.FULL);
        Trial.due("on with 39", x.on(2), 39);
        Trial.due("not full", x.year(), 1);
        Trial.due("on without", x.on(0), 0);
        Trial.due("no DEEDS", x.count(2), 0);
        Trial.due("kept over", x.keep(1), 0);
        Trial.due("three still", x.count(10), 3);
        Trial.due("on from what is kept there now", x.on(1), 0);
    }

    /** "BAD; STATE: no THINGS." */
    private static void keepRefusals() {
        for (int k = 0; k < 3; k++) {
            int place = k;
            Edge.refused("no THINGS", BARE, x -> x.keep(place), Edge.STATE);
        }
        Edge.refused("BAD ahead of STATE", BARE, x -> x.keep(3), Edge.BAD);
        Edge.refused("BAD ahead of STATE, below", BARE, x -> x.keep(-1), Edge.BAD);
        CanalRings taken = Edge.canal("f00t000", x -> x.take(0)).get();
        Trial.due("all are TAKEN, but there are THINGS", taken.keep(0), 1);
    }

    private static void onNumbers() {
        Supplier<CanalRings> kept = Edge.canal(Trial.SIX, x -> x.keep(0), x -> x.year(), x -> x.keep(1),
            x -> x.year(), x -> x.keep(2), x -> x.year());
        Edge.range("on(k)", kept, (x, k) -> x.on(k), 0, 0, 2, 2);
        Trial.due("on(1)", kept.get().on(1), 1);
    }

    /** "The CANAL is as it was kept": what is done later changes nothing of it, nor does going on from it. */
    private static void onIsAsKept() {
        CanalRings x = Trial.canal("f92r105d605c203");
        x.year();
        x.paddle(0);
        x.take(2);
        x.keep(1);
        long kept = x.digest();
        x.undo(0);
        x.move(0, 1);
        x.move(1, 1);
        x.paddle(1);
        x.year();
        for (int round = 0; round < 3; round++) {
            Trial.due("on(1)", x.on(1), 3);
            Trial.due("as it was kept", x.digest(), kept);
            x.paddle(1);
            x.year();
            x.undo(round);
            x.move(0, -1);
        }
        Trial.due("kept DEEDS can be undone", x.on(1) - x.undo(2), 2);
        Trial.due("thing 2 lies again where it was", x.lies(2, 0), 2);
        Trial.due("the kept one is whole still", x.on(1), 3);
    }

    /** "BAD; NOTHING." */
    private static void onRefusals() {
        Edge.finds("a place that is empty among others", RICH, x -> x.on(1), Edge.NOTHING);
        for (int k = 0; k < 3; k++) {
            int place = k;
            Edge.finds("nothing kept, THINGS there", SIX, x -> x.on(place), Edge.NOTHING);
            Edge.finds("nothing kept, no THINGS", BARE, x -> x.on(place), Edge.NOTHING);
        }
        Edge.refused("BAD ahead of NOTHING", BARE, x -> x.on(3), Edge.BAD);
        Edge.refused("BAD ahead of NOTHING, below", BARE, x -> x.on(-1), Edge.BAD);
    }
}
