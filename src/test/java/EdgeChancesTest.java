import java.util.function.Supplier;

/** Boundary cases of promises 35 to 37: chances, means, LOTS. */
public final class EdgeChancesTest {
    private static final Supplier<CanalRings> BARE = CanalRings::new;
    private static final Supplier<CanalRings> RICH = Edge::rich;
    private static final Supplier<CanalRings> SIX = Edge.canal(Trial.SIX);
    private static final long TWELVE_TO_6 = 2985984L;

    public static void main(String[] args) {
        oddsNumbers();
        oddsCertain();
        oddsNought();
        oddsLowestTerms();
        oddsAddUp();
        oddsAtTheEnds();
        oddsRefusals();
        midNumbers();
        midEnds();
        midLowestTerms();
        midRefusals();
        lotsNumbers();
        lotsSeeds();
        lotsEach();
        lotsFull();
        lotsRefusals();
        lotsAreDeeds();
        Trial.end("EdgeChancesTest");
    }

    /** "in n (0 .. 6) YEARS", "by p (0 .. 12) of 12" */
    private static void oddsNumbers() {
        Edge.range("odds(i, 2, 1, 6)", SIX, (x, i) -> x.odds(i, 2, 1, 6), 0, 1, 5, 1);
        Edge.range("odds(0, c, 1, 6)", SIX, (x, c) -> x.odds(0, c, 1, 6), 0, 1, 7, 1);
        Edge.range("odds(0, 2, n, 6)", SIX, (x, n) -> x.odds(0, 2, n, 6), 0, 1, 6, 1);
        Edge.range("odds(0, 2, 1, p)", SIX, (x, p) -> x.odds(0, 2, 1, p), 0, 1, 12, 1);
        Edge.refused("no THINGS", BARE, x -> x.odds(0, 0, 0, 0), Edge.BAD);
    }

    /** 1 by 1: now; if none is still; if all are. */
    private static void oddsCertain() {
        for (int p = 0; p <= 12; p++) {
            CanalRings x = Trial.canal("f91t300s300");
            Trial.ratio("now, p " + p, x, x.odds(0, 3, 0, p), 1, 1);
            Trial.ratio("a safe in 6, p " + p, x, x.odds(1, 3, 6, p), 1, 1);
        }
        for (int n = 0; n <= 6; n++) {
            CanalRings x = Trial.canal("f91t000d790");
            Trial.ratio("never still, " + n, x, x.odds(0, n, n, 0), 1, 1);
            Trial.ratio("always still, " + n, x, x.odds(0, 0, n, 12), 1, 1);
            Trial.ratio("never still, back, " + n, x, x.odds(1, 7 - n, n, 0), 1, 1);
            Trial.ratio("always still, back, " + n, x, x.odds(1, 7, n, 12), 1, 1);
        }
    }

    /** "the lower number above 0 (0 by 1)" */
    private static void oddsNought() {
        for (int n = 0; n <= 6; n++) {
            for (int p : new int[] {0, 5, 12}) {
                CanalRings x = Trial.canal("f91s300t700");
                x.odds(0, 3, n, p);
                Trial.ratio("it can't be, " + n + ", " + p, x, x.odds(0, 4, n, p), 0, 1);
                Trial.ratio("at the end it stays, " + n + ", " + p, x, x.odds(1, 6, n, p), 0, 1);
            }
        }
        CanalRings x = Trial.canal("f91t000");
        Trial.ratio("6 on in 6", x, x.odds(0, 6, 6, 11), 1, TWELVE_TO_6);
        Trial.ratio("7 on in 6", x, x.odds(0, 7, 6, 11), 0, 1);
        Trial.ratio("always still, elsewhere", x, x.odds(0, 1, 1, 12), 0, 1);
        Trial.ratio("never still, where it was", x, x.odds(0, 0, 1, 0), 0, 1);
    }

    /** "in lowest terms": p of 12, each; the greatest lower number is 12 to the power of 6. */
    private static void oddsLowestTerms() {
        int[][] still = {{0, 1}, {1, 12}, {1, 6}, {1, 4}, {1, 3}, {5, 12}, {1, 2}, {7, 12}, {2, 3}, {3, 4}, {5, 6},
            {11, 12}, {1, 1}};
        for (int p = 0; p <= 12; p++) {
            CanalRings x = Trial.canal("f91t000");
            for (int n = 0; n <= 6; n++) {
                long upper = 1;
                long lower = 1;
                for (int k = 0; k < n; k++) {
                    upper *= still[p][0];
                    lower *= still[p][1];
                }
                Trial.ratio("still in all of " + n + ", p " + p, x, x.odds(0, 0, n, p), upper, lower);
            }
        }
        CanalRings x = Trial.canal("f91t000");
        Trial.ratio("5 of 12 in all of 6", x, x.odds(0, 0, 6, 5), 15625, TWELVE_TO_6);
        Trial.ratio("7 of 12 in none of 6", x, x.odds(0, 6, 6, 7), 15625, TWELVE_TO_6);
    }

    /** Over all CELLS the chances of one THING add up to 1, on an even and an odd YEAR. */
    private static void oddsAddUp() {
        for (int n = 0; n <= 6; n++) {
            for (int year = 0; year < 2; year++) {
                CanalRings x = Trial.canal(Trial.SIX);
                for (int k = 0; k < year; k++) x.year();
                for (int i = 0; i < 6; i++) {
                    long sum = 0;
                    for (int c = 0; c < 8; c++) {
                        Trial.due("odds", x.odds(i, c, n, 5), 1);
                        sum += x.upper() * (TWELVE_TO_6 / x.lower());
                    }
                    Trial.due("thing " + i + " in " + n, sum, TWELVE_TO_6);
                }
            }
        }
    }

    /** The end holds all that would be beyond it; LEVEL 0: nothing DRIFTS, still or not. */
    private static void oddsAtTheEnds() {
        CanalRings x = Trial.canal("f91r600d100b600c600");
        Trial.ratio("ring", x, x.odds(0, 7, 2, 3), 15, 16);
        Trial.ratio("doll", x, x.odds(1, 0, 2, 3), 15, 16);
        // Of two YEARS the bicycle may DRIFT in the even one alone, the chair in the odd one.
        Trial.ratio("bicycle", x, x.odds(2, 7, 2, 3), 3, 4);
        Trial.ratio("chair", x, x.odds(3, 7, 2, 3), 3, 4);
        Trial.ratio("chair, the even one alone", x, x.odds(3, 7, 1, 3), 0, 1);
        CanalRings low = Trial.canal("f90r600");
        Trial.ratio("level 0", low, low.odds(0, 6, 6, 3), 1, 1);
        Trial.ratio("level 0, elsewhere", low, low.odds(0, 7, 6, 3), 0, 1);
    }

    /** "BAD; STATE: it is TAKEN." */
    private static void oddsRefusals() {
        Edge.refused("TAKEN", RICH, x -> x.odds(5, 0, 0, 0), Edge.STATE);
        Edge.refused("TAKEN, the last of all", RICH, x -> x.odds(5, 7, 6, 12), Edge.STATE);
        int[][] wrong = {{8, 0, 0}, {-1, 0, 0}, {Edge.NONE, 0, 0}, {0, 7, 0}, {0, -1, 0}, {0, 0, 13}, {0, 0, -1}};
        for (int[] w : wrong) {
            Edge.refused("BAD ahead of STATE", RICH, x -> x.odds(5, w[0], w[1], w[2]), Edge.BAD);
            Edge.refused("BAD", RICH, x -> x.odds(0, w[0], w[1], w[2]), Edge.BAD);
        }
    }

    private static void midNumbers() {
        Edge.range("mid(i, 1, 6)", SIX, (x, i) -> x.mid(i, 1, 6), 0, 1, 5, 1);
        Edge.range("mid(0, n, 6)", SIX, (x, n) -> x.mid(0, n, 6), 0, 1, 6, 1);
        Edge.range("mid(0, 1, p)", SIX, (x, p) -> x.mid(0, 1, p), 0, 1, 12, 1);
        Edge.refused("no THINGS", BARE, x -> x.mid(0, 0, 0), Edge.BAD);
    }

    /** "The mean of the CELL then": from 0 by 1 to 7 by 1. */
    private static void midEnds() {
        for (int cell = 0; cell < 8; cell++) {
            for (int p : new int[] {0, 7, 12}) {
                CanalRings x = Trial.canal("f91s" + cell + "00t" + cell + "00");
                Trial.ratio("now in " + cell, x, x.mid(1, 0, p), cell, 1);
                Trial.ratio("a safe in " + cell, x, x.mid(0, 6, p), cell, 1);
                Trial.ratio("always still in " + cell, x, x.mid(1, 6, 12), cell, 1);
                Trial.ratio("never still from " + cell, x, x.mid(1, 6, 0), cell == 0 ? 6 : 7, 1);
            }
        }
        CanalRings low = Trial.canal("f90d700");
        Trial.ratio("level 0", low, low.mid(0, 6, 1), 7, 1);
        CanalRings back = Trial.canal("f91d000");
        Trial.ratio("a doll in 0", back, back.mid(0, 6, 5), 0, 1);
    }

    private static void midLowestTerms() {
        CanalRings x = Trial.canal("f91t000t600d100");
        for (int p = 0; p <= 12; p++) {
            // From 0 it comes as far as there are YEARS that are not still: n times (12 - p) twelfths.
            for (int n = 0; n <= 6; n++) {
                long upper = (long) n * (12 - p);
                long lower = 12;
                for (long f = 12; f > 1; f--) {
                    if (upper % f == 0 && lower % f == 0) {
                        upper /= f;
                        lower /= f;
                    }
                }
                Trial.ratio("in " + n + ", p " + p, x, x.mid(0, n, p), upper, upper == 0 ? 1 : lower);
            }
        }
        CanalRings y = Trial.canal("f91t600d100");
        // It stays in 6 only if all six are still: 7 less 1 by 12 to the power of 6.
        Trial.ratio("the greatest lower number", y, y.mid(0, 6, 1), 7 * TWELVE_TO_6 - 1, TWELVE_TO_6);
        Trial.ratio("the least above 0", y, y.mid(1, 6, 1), 1, TWELVE_TO_6);
    }

    /** "BAD; STATE." */
    private static void midRefusals() {
        Edge.refused("TAKEN", RICH, x -> x.mid(5, 0, 0), Edge.STATE);
        Edge.refused("TAKEN, the last of all", RICH, x -> x.mid(5, 6, 12), Edge.STATE);
        int[][] wrong = {{7, 0}, {-1, 0}, {0, 13}, {0, -1}};
        for (int[] w : wrong) {
            Edge.refused("BAD ahead of STATE", RICH, x -> x.mid(5, w[0], w[1]), Edge.BAD);
            Edge.refused("BAD", RICH, x -> x.mid(0, w[0], w[1]), Edge.BAD);
        }
    }

    /** "n (1 .. 20) DEEDS", "a seed (1 .. 2147483646)" */
    private static void lotsNumbers() {
        // Seed 1: the first lot is 48271, a MOVE on of thing 1 of 6; the level stays 6.
        Edge.range("lots(n, 1)", SIX, (x, n) -> x.lots(n, 1), 1, 6, 20, levelBehind(20, 1));
        Edge.range("lots(1, seed)", SIX, (x, seed) -> x.lots(1, seed), 1, 6, 2147483646, levelBehind(1, 2147483646));
        for (int n = 1; n <= 20; n++) {
            CanalRings x = SIX.get();
            Trial.due("lots(" + n + ", 3)", x.lots(n, 3), levelBehind(n, 3));
            Trial.due("so many DEEDS", x.count(2), n);
        }
    }

    private static long next(long lot) {
        return java.math.BigInteger.valueOf(lot).multiply(java.math.BigInteger.valueOf(48271))
            .mod(java.math.BigInteger.valueOf(2147483647)).longValueExact();
    }

    /** The level of SIX behind LOTS that are done by the calls for single DEEDS. */
    private static int levelBehind(int n, int seed) {
        CanalRings x = SIX.get();
        byCalls(x, n, seed);
        return x.count(3);
    }

    private static void byCalls(CanalRings x, int n, int seed) {
        long lot = seed;
        for (int k = 0; k < n; k++) {
            lot = next(lot);
            int thing = (int) (lot % x.count(0));
            int what = (int) (lot / 8 % 4);
            if (what == 0) x.paddle(0);
            if (what == 1 && x.move(thing, 1) < 0) x.paddle(1);
            if (what == 2 && x.take(thing) < 0) x.paddle(1);
            if (what == 3) x.year();
        }
    }

    /** The seeds' ends, and numbers that pass an int on the way, lead where single DEEDS lead. */
    private static void lotsSeeds() {
        Trial.due("48271 times the greatest seed", next(2147483646), 2147483647 - 48271);
        for (int seed : new int[] {1, 2, 48271, 1 << 30, 2147435376, 2147483645, 2147483646}) {
            for (int n : new int[] {1, 2, 19, 20}) {
                CanalRings byLots = SIX.get();
                CanalRings single = SIX.get();
                byLots.lots(n, seed);
                byCalls(single, n, seed);
                Trial.due("lots(" + n + ", " + seed + ")", byLots.digest(), single.digest());
            }
        }
    }

    /** A seed whose first lot tells that DEED of that THING, of so many. */
    private static int seedFor(int what, int thing, int things) {
        for (int seed = 1; seed < 100000; seed++) {
            long lot = next(seed);
            if (lot / 8 % 4 == what && lot % things == thing) return seed;
        }
        return 0;
    }

    private static void lot(String why, String signs, int what, int thing, Edge.Call... ahead) {
        CanalRings byLots = Edge.canal(signs, ahead).get();
        CanalRings single = Edge.canal(signs, ahead).get();
        int things = single.count(0);
        Edge.Call[] deeds = {x -> x.paddle(0), x -> x.move(thing, 1), x -> x.take(thing), x -> x.year()};
        boolean done = deeds[what].of(single) >= 0;
        Trial.due(why + ": it can be", done ? 1 : 0, why.startsWith("else FILL") ? 0 : 1);
        if (!done) single.paddle(1);
        Trial.due(why, byLots.lots(1, seedFor(what, thing, things)), single.count(3));
        Trial.due(why + ", all told", byLots.digest(), single.digest());
        Trial.due(why + ", one DEED", byLots.undo(byLots.count(2) - 1), 1);
        Trial.due(why + ", undone", byLots.digest(), Edge.canal(signs, ahead).get().digest());
    }

    /** "0 DRAW, 1 a MOVE on ... (if it can be, else FILL), 2 ... TAKEN (if it can be, else FILL), 3 a YEAR" */
    private static void lotsEach() {
        for (int i = 0; i < 6; i++) {
            int thing = i;
            lot("DRAW", Trial.SIX, 0, i);
            lot("DRAW at 0", "f00t000t000t000t000t000t000", 0, i);
            lot("MOVE from 6", "f01t600t600t600t600t600t600", 1, i);
            lot("else FILL: MOVE from 7", "f01t700t700t700t700t700t700", 1, i);
            lot("else FILL: MOVE of a TAKEN one", "f00t300t300t300t300t300t300", 1, i, x -> x.take(thing));
            lot("TAKEN at 0", "f00t300t300t300t300t300t300", 2, i);
            lot("else FILL: TAKEN at 1", "f01t300t300t300t300t300t300", 2, i);
            lot("else FILL: TAKEN at 9", "f09t300t300t300t300t300t300", 2, i);
            lot("else FILL: TAKEN twice", "f00t300t300t300t300t300t300", 2, i, x -> x.take(thing));
            lot("YEAR", Trial.SIX, 3, i);
        }
        lot("DRAW with one alone", "f05t000", 0, 0);
        lot("MOVE of one alone", "f01t000", 1, 0);
        lot("else FILL: MOVE of one alone from 7", "f01t700", 1, 0);
        lot("TAKEN of one alone", "f00t000", 2, 0);
        lot("else FILL: TAKEN of one alone at 1", "f01t000", 2, 0);
        lot("YEAR with one alone", "f91t000", 3, 0);
        lot("MOVE of the second of two", "f01t000t000", 1, 1);
    }

    /** "FULL: with n more there would be more than 40 DEEDS." */
    private static void lotsFull() {
        for (int deeds = 20; deeds <= 40; deeds++) {
            int room = 40 - deeds;
            Supplier<CanalRings> made = Edge.withDeeds(Trial.SIX, deeds);
            if (room > 0) {
                CanalRings x = made.get();
                Trial.due("as many as there is room for", x.lots(room, 5) >= 0 ? 1 : 0, 1);
                Trial.due("40 DEEDS", x.count(2), 40);
                Trial.due("none more", x.lots(1, 5), Edge.FULL);
            }
            if (room < 20) Edge.refused("one more than " + room, made, x -> x.lots(room + 1, 5), Edge.FULL);
            if (room < 20) Edge.refused("20 where there is room for " + room, made, x -> x.lots(20, 5), Edge.FULL);
        }
    }

    /** "BAD; STATE: no THINGS; FULL ... (FULL last.)" */
    private static void lotsRefusals() {
        Edge.refused("no THINGS", BARE, x -> x.lots(1, 1), Edge.STATE);
        Edge.refused("no THINGS, the last of all", BARE, x -> x.lots(20, 2147483646), Edge.STATE);
        int[][] wrong = {{0, 1}, {21, 1}, {-1, 1}, {1, 0}, {1, -1}, {1, Edge.MOST}, {1, Edge.LEAST}, {0, 0}};
        for (int[] w : wrong) {
            Edge.refused("BAD ahead of STATE", BARE, x -> x.lots(w[0], w[1]), Edge.BAD);
            Edge.refused("BAD", SIX, x -> x.lots(w[0], w[1]), Edge.BAD);
            Edge.refused("BAD ahead of FULL", Edge.full(Trial.SIX), x -> x.lots(w[0], w[1]), Edge.BAD);
        }
    }

    /** "DEEDS truly": each can be undone, kept, gone on from. */
    private static void lotsAreDeeds() {
        CanalRings x = SIX.get();
        x.lots(20, 11);
        x.lots(20, 12);
        x.keep(0);
        long full = x.digest();
        CanalRings single = SIX.get();
        byCalls(single, 20, 11);
        byCalls(single, 20, 12);
        for (int n = 39; n >= 0; n--) {
            Trial.due("undo(" + n + ")", x.undo(n), 1);
            single.undo(n);
            Trial.due("behind " + n + " LOTS: the YEAR", x.count(1), single.count(1));
            Trial.due("behind " + n + " LOTS: the LEVEL", x.count(3), single.count(3));
            Trial.due("behind " + n + " LOTS: the TAKEN ones", x.count(5), single.count(5));
        }
        Trial.due("gone on from", x.on(0), 40);
        Trial.due("as it was kept", x.digest(), full);
    }
}
