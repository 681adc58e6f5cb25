/** Promises 35 to 37: chances, means, lots. */
public final class ChancesTest {
    public static void main(String[] args) {
        odds();
        mid();
        refusals();
        lots();
        lotsStepByStep();
        lotsRefusals();
        Trial.end("ChancesTest");
    }

    private static void odds() {
        CanalRings x = Trial.canal("f55 t200 r200 b200 d200 s200 c200");
        long before = x.digest();
        Trial.ratio("now", x, x.odds(0, 2, 0, 5), 1, 1);
        Trial.ratio("now elsewhere", x, x.odds(0, 3, 0, 5), 0, 1);
        Trial.ratio("never still", x, x.odds(0, 3, 1, 0), 1, 1);
        Trial.ratio("always still", x, x.odds(0, 2, 6, 12), 1, 1);
        Trial.ratio("never by then", x, x.odds(0, 7, 4, 6), 0, 1);
        Trial.ratio("once of two", x, x.odds(0, 3, 2, 3), 3, 8);
        Trial.ratio("5 of 12", x, x.odds(0, 2, 1, 5), 5, 12);
        Trial.ratio("cut at the end", x, x.odds(1, 7, 3, 6), 1, 8);
        Trial.ratio("the end by more ways", x, x.odds(1, 7, 4, 6), 5, 16);
        Trial.ratio("doll", x, x.odds(3, 0, 2, 4), 8, 9);
        Trial.ratio("a still year has its number, too", x, x.odds(2, 3, 2, 3), 3, 4);
        Trial.ratio("a chair waits a year", x, x.odds(5, 3, 2, 3), 3, 4);
        Trial.ratio("safe", x, x.odds(4, 2, 6, 7), 1, 1);
        // All of 12 to the power of 6 but those with 0, 1, 2 years that are not still: 1, 6 times 11, 15 times 121.
        Trial.ratio("six of six", x, x.odds(1, 7, 6, 1), (2985984 - 1882) / 2, 2985984 / 2);
        Trial.due("aside", x.digest(), before);
        x.year();
        Trial.ratio("a bicycle from an odd year on", x, x.odds(2, 3, 1, 0), 1, 1);
        x.undo(0);
        CanalRings low = Trial.canal("f50 t200");
        Trial.ratio("level 0", low, low.odds(0, 2, 6, 1), 1, 1);
    }

    private static void mid() {
        CanalRings x = Trial.canal("f55 t200 r600 d100 s000");
        Trial.ratio("now", x, x.mid(0, 0, 1), 2, 1);
        Trial.ratio("half", x, x.mid(0, 1, 6), 5, 2);
        Trial.ratio("twelfths", x, x.mid(0, 1, 5), 31, 12);
        Trial.ratio("cut at the end", x, x.mid(1, 1, 3), 27, 4);
        Trial.ratio("cut at 0", x, x.mid(2, 1, 4), 1, 3);
        Trial.ratio("none", x, x.mid(3, 6, 4), 0, 1);
        Trial.ratio("all the way", x, x.mid(0, 4, 0), 6, 1);
    }

    private static void refusals() {
        CanalRings x = Trial.canal("f50 t200 t200");
        x.odds(0, 2, 1, 5);
        x.take(1);
        Trial.refused("odds taken", x, () -> x.odds(1, 0, 0, 0), CanalRings.STATE);
        Trial.refused("mid taken", x, () -> x.mid(1, 0, 0), CanalRings.STATE);
        Trial.refused("odds taken, 7 years", x, () -> x.odds(1, 0, 7, 0), CanalRings.BAD);
        Trial.refused("mid taken, 7 years", x, () -> x.mid(1, 7, 0), CanalRings.BAD);
        int[][] wrong = {{2, 0, 0, 0}, {-1, 0, 0, 0}, {0, 8, 0, 0}, {0, -1, 0, 0}, {0, -9, 0, 0}, {0, 0, 7, 0},
            {0, 0, -1, 0}, {0, 0, 0, 13}, {0, 0, 0, -1}};
        for (int[] w : wrong) Trial.refused("odds", x, () -> x.odds(w[0], w[1], w[2], w[3]), CanalRings.BAD);
        for (int[] w : wrong) {
            if (w[1] == 0) Trial.refused("mid", x, () -> x.mid(w[0], w[2], w[3]), CanalRings.BAD);
        }
    }

    private static void lots() {
        // Seed 1: the first lot is 48271, by 8 it is 6033, modulo 4 that is 1; 48271 modulo 2 is 1.
        CanalRings x = Trial.canal("f53 t200 t300");
        Trial.due("lots(1, 1)", x.lots(1, 1), 3);
        Trial.due("one deed", x.count(2), 1);
        Trial.due("a move on of thing 1", x.cell(4), 2);
        CanalRings end = Trial.canal("f53 t200 t700");
        Trial.due("it can't move on: FILL", end.lots(1, 1), 6);
        Trial.due("it stays", end.cell(7), 2);
        // The second lot is 182605794: by 8 22825724, modulo 4 that is 0: DRAW.
        Trial.due("lots(2, 1)", x.lots(2, 1), 1);
        Trial.due("moved once more", x.cell(5), 2);
        Trial.due("its deeds can be undone", x.undo(1), 2);
        Trial.due("as behind the first", x.cell(4), 2);
        CanalRings one = Trial.canal("f53 t300");
        Trial.due("one thing alone", one.lots(1, 1), 3);
        Trial.due("moved on", one.cell(4), 1);
        Trial.due("the greatest seed", x.lots(20, 2147483646) >= 0 ? 1 : 0, 1);
        Trial.due("21 deeds", x.count(2), 21);
    }

    /** The same deeds by the calls for single ones. */
    private static void lotsStepByStep() {
        for (int seed = 1; seed < 40; seed++) {
            CanalRings byLots = Trial.canal(Trial.SIX);
            CanalRings byCalls = Trial.canal(Trial.SIX);
            Trial.due("level behind lots", byLots.lots(20, seed), stepAll(byCalls, seed, 20));
            Trial.due("digest behind lots", byLots.digest(), byCalls.digest());
            Trial.due("level behind more", byLots.lots(20, seed + 50000), stepAll(byCalls, seed + 50000, 20));
            Trial.due("digest behind more", byLots.digest(), byCalls.digest());
        }
    }

    private static int stepAll(CanalRings x, long seed, int n) {
        long lot = seed;
        for (int k = 0; k < n; k++) {
            lot = lot * 48271 % 2147483647;
            int thing = (int) (lot % x.count(0));
            switch ((int) (lot / 8 % 4)) {
                case 0: x.paddle(0); break;
                case 1: if (x.move(thing, 1) < 0) x.paddle(1); break;
                case 2: if (x.take(thing) < 0) x.paddle(1); break;
                default: x.year(); break;
            }
        }
        return x.count(3);
    }

    private static void lotsRefusals() {
        CanalRings none = new CanalRings();
        Trial.refused("no things", none, () -> none.lots(1, 1), CanalRings.STATE);
        Trial.refused("no things, seed 0", none, () -> none.lots(1, 0), CanalRings.BAD);
        CanalRings x = Trial.canal(Trial.SIX);
        x.lots(20, 3);
        x.year();
        Trial.refused("n 0", x, () -> x.lots(0, 1), CanalRings.BAD);
        Trial.refused("n 21", x, () -> x.lots(21, 1), CanalRings.BAD);
        Trial.refused("n -1", x, () -> x.lots(-1, 1), CanalRings.BAD);
        Trial.refused("seed 0", x, () -> x.lots(20, 0), CanalRings.BAD);
        Trial.refused("seed -5", x, () -> x.lots(1, -5), CanalRings.BAD);
        Trial.refused("seed 2147483647", x, () -> x.lots(1, 2147483647), CanalRings.BAD);
        Trial.refused("41 deeds", x, () -> x.lots(20, 1), CanalRings.FULL);
        Trial.due("40 deeds", x.lots(19, 1) >= 0 ? 1 : 0, 1);
        Trial.refused("full", x, () -> x.lots(1, 1), CanalRings.FULL);
    }
}
