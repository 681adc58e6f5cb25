/** Promises 15 to 21: years, paddles, moves, things taken, undone, kept, gone on from. */
public final class DeedsTest {
    public static void main(String[] args) {
        years();
        paddles();
        moves();
        takes();
        fullLast();
        undo();
        undoEach();
        keepAndOn();
        withoutThings();
        Trial.end("DeedsTest");
    }

    private static void cells(String when, CanalRings x, int... want) {
        for (int i = 0; i < want.length; i++) Trial.asks(when + " thing " + i, x, x.thing(i, 1), want[i]);
    }

    private static void years() {
        CanalRings x = Trial.canal(Trial.SIX);
        int[][] cells = {{2, 0, 4, 7, 3, 1}, {3, 1, 5, 6, 3, 1}, {4, 2, 5, 5, 3, 2}, {5, 3, 6, 4, 3, 2},
            {6, 4, 6, 3, 3, 3}, {7, 5, 7, 2, 3, 3}, {7, 6, 7, 1, 3, 4}, {7, 7, 7, 0, 3, 4}, {7, 7, 7, 0, 3, 5}};
        for (int year = 0; year < cells.length; year++) {
            cells("year " + year, x, cells[year]);
            Trial.due("the year then", x.year(), year + 1);
        }
        Trial.due("deeds", x.count(2), cells.length);
        CanalRings swift = Trial.canal("f91 r600 d100");
        swift.year();
        cells("not beyond", swift, 7, 0);
        CanalRings low = Trial.canal("f90 r300 d300 t300 b300 s300 c300");
        low.year();
        low.year();
        cells("while the level is 0", low, 3, 3, 3, 3, 3, 3);
        Trial.due("years go by all the same", low.count(1), 2);
        low.take(0);
        low.paddle(1);
        Trial.due("a year with a taken one", low.year(), 3);
        cells("the taken one stays so", low, CanalRings.NONE, 1, 4, 4, 3, 3);
    }

    private static void paddles() {
        CanalRings x = Trial.canal("f05 t000");
        int[] turns = {1, 1, 0, 0, 0, 0, 0, 0, 1, 1, 1, 1};
        int[] levels = {8, 9, 7, 5, 3, 1, 0, 0, 3, 6, 9, 9};
        for (int k = 0; k < turns.length; k++) Trial.due("paddle", x.paddle(turns[k]), levels[k]);
        Trial.due("each turn is a deed", x.count(2), 12);
        Trial.refused("paddle(2)", x, () -> x.paddle(2), CanalRings.BAD);
        Trial.refused("paddle(-1)", x, () -> x.paddle(-1), CanalRings.BAD);
    }

    private static void moves() {
        CanalRings x = Trial.canal("f50 t600 t100");
        Trial.due("on", x.move(0, 1), 7);
        Trial.refused("beyond 7", x, () -> x.move(0, 1), CanalRings.STATE);
        Trial.due("back", x.move(0, -1), 6);
        Trial.due("back to 0", x.move(1, -1), 0);
        Trial.refused("beyond 0", x, () -> x.move(1, -1), CanalRings.STATE);
        x.take(0);
        Trial.refused("taken", x, () -> x.move(0, 1), CanalRings.STATE);
        Trial.refused("taken, by 0", x, () -> x.move(0, 0), CanalRings.BAD);
        Trial.refused("by 2", x, () -> x.move(1, 2), CanalRings.BAD);
        Trial.refused("by -2", x, () -> x.move(1, -2), CanalRings.BAD);
        Trial.refused("no thing 2", x, () -> x.move(2, 1), CanalRings.BAD);
        Trial.refused("no thing -1", x, () -> x.move(-1, 1), CanalRings.BAD);
        Trial.due("deeds", x.count(2), 4);
    }

    private static void takes() {
        CanalRings x = Trial.canal("f01 t205 t602 t333");
        Trial.refused("the level is above 0", x, () -> x.take(0), CanalRings.STATE);
        x.paddle(0);
        Trial.due("gate behind", x.take(0), 3);
        Trial.due("gate ahead", x.take(1), 4);
        Trial.due("by its gate", x.take(2), 0);
        Trial.refused("twice", x, () -> x.take(0), CanalRings.STATE);
        Trial.refused("take(3)", x, () -> x.take(3), CanalRings.BAD);
        Trial.refused("take(-1)", x, () -> x.take(-1), CanalRings.BAD);
        Trial.due("taken", x.count(5), 7);
    }

    private static void fullLast() {
        CanalRings x = Trial.canal("f00 t700 t300");
        x.take(1);
        for (int k = 0; k < 38; k++) x.year();
        Trial.due("the 40th", x.year(), 39);
        Trial.refused("year", x, () -> x.year(), CanalRings.FULL);
        Trial.refused("paddle", x, () -> x.paddle(1), CanalRings.FULL);
        Trial.refused("paddle(2)", x, () -> x.paddle(2), CanalRings.BAD);
        Trial.refused("move", x, () -> x.move(0, -1), CanalRings.FULL);
        Trial.refused("move beyond", x, () -> x.move(0, 1), CanalRings.STATE);
        Trial.refused("move a taken one", x, () -> x.move(1, 1), CanalRings.STATE);
        Trial.refused("move by 0", x, () -> x.move(0, 0), CanalRings.BAD);
        Trial.refused("take", x, () -> x.take(0), CanalRings.FULL);
        Trial.refused("take a taken one", x, () -> x.take(1), CanalRings.STATE);
        Trial.due("the last one undone", x.undo(39), 1);
        Trial.due("room for one", x.take(0), 7);
    }

    private static void undo() {
        CanalRings x = Trial.canal("f55 t200 b305 d605 c001");
        long[] digests = new long[12];
        digests[0] = x.digest();
        x.year();
        digests[1] = x.digest();
        x.move(0, 1);
        digests[2] = x.digest();
        x.paddle(0);
        x.paddle(0);
        x.paddle(0);
        digests[5] = x.digest();
        x.take(1);
        digests[6] = x.digest();
        x.paddle(1);
        x.year();
        x.move(2, -1);
        digests[9] = x.digest();
        x.year();
        Trial.due("undo(9)", x.undo(9), 1);
        Trial.due("behind undo(9)", x.digest(), digests[9]);
        Trial.due("undo(9) again: none is left", x.undo(9), 0);
        Trial.due("undo(6)", x.undo(6), 3);
        Trial.due("behind undo(6)", x.digest(), digests[6]);
        Trial.due("undo(5): no more taken", x.undo(5), 1);
        Trial.due("behind undo(5)", x.digest(), digests[5]);
        Trial.refused("undo(6) of 5", x, () -> x.undo(6), CanalRings.BAD);
        Trial.refused("undo(-1)", x, () -> x.undo(-1), CanalRings.BAD);
        Trial.due("undo(2)", x.undo(2), 3);
        Trial.due("behind undo(2)", x.digest(), digests[2]);
        Trial.due("undo(1)", x.undo(1), 1);
        Trial.due("behind undo(1)", x.digest(), digests[1]);
        Trial.due("undo(0)", x.undo(0), 1);
        Trial.due("behind undo(0)", x.digest(), digests[0]);
    }

    /** Deeds of each thing are done again as they were. */
    private static void undoEach() {
        CanalRings x = Trial.canal("f00 t300 r300 s300 b300 d300 c300");
        for (int i = 0; i < 6; i++) x.move(i, i % 2 == 0 ? 1 : -1);
        for (int i = 3; i < 6; i++) x.take(i);
        long before = x.digest();
        x.paddle(1);
        Trial.due("undo(9)", x.undo(9), 1);
        Trial.due("all as before", x.digest(), before);
        Trial.due("undo(5)", x.undo(5), 4);
        cells("five moves are left", x, 4, 2, 4, 2, 4, 3);
        x.undo(0);
        for (int i = 0; i < 6; i++) x.take(i);
        x.year();
        Trial.due("undo(6)", x.undo(6), 1);
        Trial.due("all taken again", x.count(5), 63);
    }

    private static void keepAndOn() {
        CanalRings x = Trial.canal("f91 t300 r400 c500");
        Trial.finds("on of none", x, () -> x.on(0), Trial.NOTHING);
        Trial.due("keep at first", x.keep(2), 0);
        x.year();
        x.paddle(0);
        x.take(1);
        Trial.due("keep", x.keep(0), 3);
        Trial.due("kept", x.count(10), 2);
        long kept = x.digest();
        x.paddle(1);
        x.year();
        x.undo(1);
        x.move(0, 1);
        Trial.due("on", x.on(0), 3);
        Trial.due("as it was", x.digest(), kept);
        Trial.due("its deeds can be undone", x.undo(2), 1);
        cells("one deed less", x, 4, 6, 5);
        Trial.due("on once more", x.on(0), 3);
        Trial.due("still as it was", x.digest(), kept);
        Trial.due("on from the first", x.on(2), 0);
        cells("as at first", x, 3, 4, 5);
        Trial.due("keep over", x.keep(0), 0);
        Trial.due("on from what was kept over", x.on(0), 0);
        Trial.due("level as at first", x.count(3), 1);
        Trial.refused("keep(3)", x, () -> x.keep(3), CanalRings.BAD);
        Trial.refused("keep(-1)", x, () -> x.keep(-1), CanalRings.BAD);
        Trial.refused("on(3)", x, () -> x.on(3), CanalRings.BAD);
        Trial.refused("on(-1)", x, () -> x.on(-1), CanalRings.BAD);
        Trial.finds("on(1)", x, () -> x.on(1), Trial.NOTHING);
        Trial.fillUpDeeds(x);
        Trial.due("keep 40", x.keep(1), 40);
        x.undo(0);
        Trial.due("on with 40", x.on(1), 40);
    }

    private static void withoutThings() {
        CanalRings x = new CanalRings();
        Trial.refused("year", x, () -> x.year(), CanalRings.STATE);
        Trial.refused("paddle", x, () -> x.paddle(1), CanalRings.STATE);
        Trial.refused("paddle(7)", x, () -> x.paddle(7), CanalRings.BAD);
        Trial.refused("move", x, () -> x.move(0, 1), CanalRings.BAD);
        Trial.refused("take", x, () -> x.take(0), CanalRings.BAD);
        Trial.refused("undo(1)", x, () -> x.undo(1), CanalRings.BAD);
        Trial.refused("keep", x, () -> x.keep(0), CanalRings.STATE);
        Trial.refused("keep(3)", x, () -> x.keep(3), CanalRings.BAD);
        Trial.finds("on", x, () -> x.on(0), Trial.NOTHING);
    }
}
