/** Promises 22 to 26: where each will lie, three in one place, the fewest moves, whence it was thrown. */
public final class WhereItLiesTest {
    public static void main(String[] args) {
        lies();
        three();
        moves();
        owned();
        thrown();
        withoutThings();
        Trial.end("WhereItLiesTest");
    }

    private static void lies() {
        CanalRings x = Trial.canal(Trial.SIX);
        long before = x.digest();
        int[][] cells = {{2, 3, 4, 5, 6, 7, 7}, {0, 1, 2, 3, 4, 5, 6}, {4, 5, 5, 6, 6, 7, 7},
            {7, 6, 5, 4, 3, 2, 1}, {3, 3, 3, 3, 3, 3, 3}, {1, 1, 2, 2, 3, 3, 4}};
        for (int i = 0; i < 6; i++) {
            for (int n = 0; n < 7; n++) Trial.due("lies(" + i + ", " + n + ")", x.lies(i, n), cells[i][n]);
        }
        Trial.due("it is aside", x.digest(), before);
        Trial.due("lies(5, 60)", x.lies(5, 60), 7);
        x.year();
        Trial.due("bicycle from an odd year", x.lies(2, 1), 5);
        Trial.due("bicycle from an odd year, 2", x.lies(2, 2), 6);
        Trial.due("chair from an odd year", x.lies(5, 1), 2);
        x.undo(0);
        for (int k = 0; k < 3; k++) x.paddle(0);
        Trial.due("level 0", x.lies(0, 60), 2);
        x.take(0);
        Trial.refused("taken", x, () -> x.lies(0, 0), CanalRings.STATE);
        Trial.refused("taken, 61", x, () -> x.lies(0, 61), CanalRings.BAD);
        Trial.refused("61", x, () -> x.lies(1, 61), CanalRings.BAD);
        Trial.refused("-1", x, () -> x.lies(1, -1), CanalRings.BAD);
        Trial.refused("thing 6", x, () -> x.lies(6, 0), CanalRings.BAD);
        Trial.refused("thing -1", x, () -> x.lies(-1, 0), CanalRings.BAD);
    }

    private static void three() {
        CanalRings now = Trial.canal("f01 t500 t500 t500 t200 t200 t200");
        Trial.due("two places at once", now.three(), 0);
        Trial.due("the least number", now.asked(), 2);
        CanalRings later = Trial.canal("f51 s700 t600 t000");
        Trial.due("in 7 years", later.three(), 7);
        Trial.due("in cell 7", later.asked(), 7);
        CanalRings never = Trial.canal("f51 s600 s600 t700");
        never.thing(0, 1);
        Trial.due("never", never.three(), CanalRings.NONE);
        Trial.due("then asked() stays", never.asked(), 6);
        CanalRings slow = Trial.canal("f01 c000 s700 s700");
        Trial.due("the chair takes 14 years", slow.three(), 14);
        CanalRings taken = Trial.canal("f00 t500 t500 t500 t500");
        taken.take(0);
        Trial.due("three are left", taken.three(), 0);
        Trial.due("in cell 5", taken.asked(), 5);
        taken.take(1);
        Trial.due("two are left", taken.three(), CanalRings.NONE);
        taken.take(2);
        taken.take(3);
        Trial.due("none are left", taken.three(), CanalRings.NONE);
        Trial.due("two by cell 0", Trial.canal("f00 t000 t000").three(), CanalRings.NONE);
    }

    private static void moves() {
        CanalRings x = Trial.canal("f55 t300 r300 s300 d300 b300 t390");
        Trial.due("as it is", x.moves(0, 3, 0), 0);
        Trial.due("now", x.moves(0, 0, 0), 3);
        Trial.due("it drifts there", x.moves(0, 5, 2), 0);
        Trial.due("one too many", x.moves(0, 4, 2), 1);
        Trial.due("the end is near", x.moves(0, 7, 2), 2);
        Trial.due("the end from any", x.moves(0, 7, 20), 0);
        Trial.due("cell 1 can't be in 2 years", x.moves(0, 1, 2), CanalRings.NONE);
        Trial.due("ring", x.moves(1, 7, 2), 0);
        Trial.due("ring to an even place", x.moves(1, 4, 2), 3);
        Trial.due("safe", x.moves(2, 7, 20), 4);
        Trial.due("doll", x.moves(3, 0, 1), 1);
        Trial.due("doll to 7", x.moves(3, 7, 1), CanalRings.NONE);
        Trial.due("bicycle", x.moves(4, 4, 2), 0);
        Trial.due("too heavy", x.moves(5, 0, 20), 3);
        Trial.refused("thing 6", x, () -> x.moves(6, 0, 0), CanalRings.BAD);
        Trial.refused("cell 8", x, () -> x.moves(0, 8, 0), CanalRings.BAD);
        Trial.refused("cell -1", x, () -> x.moves(0, -1, 0), CanalRings.BAD);
        Trial.refused("21 years", x, () -> x.moves(0, 0, 21), CanalRings.BAD);
        Trial.refused("-1 years", x, () -> x.moves(0, 0, -1), CanalRings.BAD);
        CanalRings low = Trial.canal("f50 t300");
        low.take(0);
        Trial.refused("taken", low, () -> low.moves(0, 3, 0), CanalRings.STATE);
        Trial.refused("taken, 21 years", low, () -> low.moves(0, 3, 21), CanalRings.BAD);
    }

    private static void owned() {
        CanalRings x = Trial.canal("f51 t204 s506 d601");
        Trial.due("now", x.owned(0), 2 + 1 + 5);
        Trial.due("in 2 years", x.owned(2), 0 + 1 + 1);
        Trial.due("in 5 years", x.owned(5), CanalRings.NONE);
        Trial.due("in 20 years", x.owned(20), CanalRings.NONE);
        Trial.due("asked() stays", x.asked(), 0);
        x.paddle(0);
        Trial.due("level 0, in 20 years", x.owned(20), 2 + 1 + 5);
        x.take(0);
        Trial.due("one is taken", x.owned(20), 1 + 5);
        x.take(1);
        x.take(2);
        Trial.due("all are taken", x.owned(3), 0);
        Trial.refused("-1", x, () -> x.owned(-1), CanalRings.BAD);
        Trial.refused("21", x, () -> x.owned(21), CanalRings.BAD);
    }

    private static void thrown() {
        CanalRings x = Trial.canal("f51 t300 r300 d300 s300 b300");
        Trial.due("one cell", x.thrown(0, 4, 2), 1 << 2);
        Trial.due("the end", x.thrown(0, 7, 2), 0xE0);
        Trial.due("none", x.thrown(0, 1, 2), 0);
        Trial.due("all", x.thrown(0, 7, 20), 0xFF);
        Trial.due("ring", x.thrown(1, 7, 1), 0xE0);
        Trial.due("doll", x.thrown(2, 0, 1), 7);
        Trial.due("safe", x.thrown(3, 6, 20), 64);
        Trial.due("now", x.thrown(0, 0, 0), 1);
        x.year();
        Trial.due("a bicycle in an odd year", x.thrown(4, 6, 1), 64);
        x.paddle(0);
        Trial.due("level 0", x.thrown(0, 4, 2), 16);
        x.take(0);
        Trial.due("taken all the same", x.thrown(0, 4, 2), 16);
        Trial.refused("thing 5", x, () -> x.thrown(5, 0, 0), CanalRings.BAD);
        Trial.refused("thing -1", x, () -> x.thrown(-1, 0, 0), CanalRings.BAD);
        Trial.refused("cell 8", x, () -> x.thrown(0, 8, 0), CanalRings.BAD);
        Trial.refused("cell -1", x, () -> x.thrown(0, -1, 0), CanalRings.BAD);
        Trial.refused("21 years", x, () -> x.thrown(0, 0, 21), CanalRings.BAD);
        Trial.refused("-1 years", x, () -> x.thrown(0, 0, -1), CanalRings.BAD);
    }

    private static void withoutThings() {
        CanalRings x = new CanalRings();
        Trial.refused("lies", x, () -> x.lies(0, 0), CanalRings.BAD);
        Trial.refused("three", x, () -> x.three(), CanalRings.STATE);
        Trial.refused("moves", x, () -> x.moves(0, 0, 0), CanalRings.BAD);
        Trial.refused("owned", x, () -> x.owned(0), CanalRings.STATE);
        Trial.refused("owned(21)", x, () -> x.owned(21), CanalRings.BAD);
        Trial.refused("thrown", x, () -> x.thrown(0, 0, 0), CanalRings.BAD);
    }
}
