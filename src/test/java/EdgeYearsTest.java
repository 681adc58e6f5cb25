import java.util.function.Supplier;

/** Boundary cases of promises 22 to 26: where it will lie. */
public final class EdgeYearsTest {
    private static final Supplier<CanalRings> BARE = CanalRings::new;
    private static final Supplier<CanalRings> RICH = Edge::rich;
    private static final Supplier<CanalRings> SIX = Edge.canal(Trial.SIX);

    public static void main(String[] args) {
        liesNumbers();
        liesYears();
        liesEnds();
        liesRefusals();
        threeNow();
        threeOfMany();
        threeLatest();
        threeNone();
        threeRefusals();
        movesNumbers();
        movesNow();
        movesAtTheEnds();
        movesRefusals();
        ownedNumbers();
        ownedSums();
        ownedNone();
        ownedTaken();
        ownedRefusals();
        thrownNumbers();
        thrownBits();
        thrownOfTaken();
        thrownRefusals();
        Trial.end("EdgeYearsTest");
    }

    /** "in n (0 .. 60) YEARS" */
    private static void liesNumbers() {
        Edge.range("lies(i, 0)", SIX, (x, i) -> x.lies(i, 0), 0, 2, 5, 1);
        Edge.range("lies(0, n)", SIX, (x, n) -> x.lies(0, n), 0, 2, 60, 7);
        Edge.range("lies(3, n)", SIX, (x, n) -> x.lies(3, n), 0, 7, 60, 0);
        Edge.range("lies(4, n)", SIX, (x, n) -> x.lies(4, n), 0, 3, 60, 3);
        Edge.aside("lies(5, 60) is aside", SIX, x -> x.lies(5, 60), 7);
    }

    /** As many YEARS truly let go by lead to the same CELL; those beyond 40 DEEDS are told all the same. */
    private static void liesYears() {
        CanalRings x = SIX.get();
        int[][] told = new int[6][41];
        for (int i = 0; i < 6; i++) {
            for (int n = 0; n <= 40; n++) told[i][n] = x.lies(i, n);
        }
        CanalRings y = SIX.get();
        for (int n = 0; n <= 40; n++) {
            for (int i = 0; i < 6; i++) Trial.due("lies(" + i + ", " + n + ")", told[i][n], y.lies(i, 0));
            if (n < 40) y.year();
        }
        Trial.due("60 YEARS behind 40 DEEDS", y.lies(1, 60), 7);
        CanalRings odd = Edge.canal("f92b000c000", z -> z.year()).get();
        // From YEAR 1 on the chair goes first: 1, then 1 on each second YEAR.
        int[] bicycle = {1, 1, 2, 2, 3};
        int[] chair = {0, 1, 1, 2, 2};
        for (int n = 0; n < 5; n++) {
            Trial.due("bicycle in " + n, odd.lies(0, n), bicycle[n]);
            Trial.due("chair in " + n, odd.lies(1, n), chair[n]);
        }
    }

    /** Not beyond CELLS 0, 7, as late as can be. */
    private static void liesEnds() {
        CanalRings x = Trial.canal("f91t000r090b000c090d790d700");
        int[] atEnd = {7, 7, 13, 14, 7, 4};
        for (int i = 0; i < 6; i++) {
            int end = i < 4 ? 7 : 0;
            Trial.due("thing " + i + " at the end in " + atEnd[i], x.lies(i, atEnd[i]), end);
            Trial.due("and no sooner", x.lies(i, atEnd[i] - 1) == end ? 1 : 0, 0);
            Trial.due("nor does it leave it", x.lies(i, atEnd[i] + 1), end);
        }
        CanalRings low = Trial.canal("f90t300r300d300c300b300");
        for (int i = 0; i < 5; i++) Trial.due("level 0, 60 YEARS", low.lies(i, 60), 3);
    }

    /** "BAD; STATE: it is TAKEN." */
    private static void liesRefusals() {
        Edge.refused("TAKEN", RICH, x -> x.lies(5, 0), Edge.STATE);
        Edge.refused("TAKEN, 60", RICH, x -> x.lies(5, 60), Edge.STATE);
        Edge.refused("BAD ahead of STATE, 61", RICH, x -> x.lies(5, 61), Edge.BAD);
        Edge.refused("BAD ahead of STATE, -1", RICH, x -> x.lies(5, -1), Edge.BAD);
        Edge.refused("no THINGS", BARE, x -> x.lies(0, 0), Edge.BAD);
    }

    private static void three(String signs, int years, int cell) {
        CanalRings x = Trial.canal(signs);
        Trial.due("three() of " + signs, x.three(), years);
        Trial.due("which, of " + signs, x.asked(), cell);
    }

    /** "three THINGS, or more": in 0 YEARS, at both ends; two are too few. */
    private static void threeNow() {
        for (int cell = 0; cell < 8; cell++) {
            String thing = "s" + cell + "00";
            three("f01" + thing.repeat(3), 0, cell);
            three("f01" + thing.repeat(4), 0, cell);
            three("f01" + thing.repeat(6), 0, cell);
            Edge.aside("two in " + cell, Edge.canal("f01" + thing.repeat(2)), x -> x.three(), Edge.NONE);
        }
    }

    /** "which by asked() (the least number)" */
    private static void threeOfMany() {
        three("f01s700s700s700s000s000s000", 0, 0);
        three("f01s500s400s500s400s500s400", 0, 4);
        three("f91s600s600t500t400t400t400", 0, 4);
        // Four of them lie in 7 later, but three in 6 sooner.
        three("f91s600s600t500t300t400t200", 1, 6);
    }

    /** "first": as late as can be; a chair needs two YEARS for each CELL. */
    private static void threeLatest() {
        three("f91s700s700c000", 14, 7);
        three("f91s700s700b000", 13, 7);
        three("f91s700s700t000", 7, 7);
        three("f91s000s000d790", 7, 0);
        CanalRings odd = Edge.canal("f91s700s700c000", x -> x.year()).get();
        Trial.due("from an odd YEAR on", odd.three(), 13);
    }

    /** "NONE: in none": asked() stays as it was. */
    private static void threeNone() {
        Edge.aside("none ever", Edge.canal("f91s600s600t700", x -> x.thing(0, 1)), x -> x.three(), Edge.NONE);
        Edge.aside("level 0", Edge.canal("f90s700s700t600", x -> x.thing(0, 1)), x -> x.three(), Edge.NONE);
        Edge.aside("one THING", Edge.canal("f91t000"), x -> x.three(), Edge.NONE);
        Edge.aside("they pass one another", Edge.canal("f91s300t200d400"), x -> x.three(), Edge.NONE);
        Supplier<CanalRings> taken = Edge.canal("f00t500t500t500t500", x -> x.take(0), x -> x.take(2));
        Edge.aside("TAKEN ones don't lie there", taken, x -> x.three(), Edge.NONE);
        Supplier<CanalRings> all = Edge.canal("f00t500t500t500", x -> x.take(0), x -> x.take(1), x -> x.take(2));
        Edge.aside("all are TAKEN", all, x -> x.three(), Edge.NONE);
        CanalRings left = Edge.canal("f00t500t500t500t500", x -> x.take(0)).get();
        Trial.due("three are left", left.three(), 0);
    }

    private static void threeRefusals() {
        Edge.refused("no THINGS", BARE, x -> x.three(), Edge.STATE);
    }

    /** "in n (0 .. 20) YEARS" */
    private static void movesNumbers() {
        Edge.range("moves(i, 7, 0)", SIX, (x, i) -> x.moves(i, 7, 0), 0, 5, 5, 6);
        Edge.range("moves(4, c, 0)", SIX, (x, c) -> x.moves(4, c, 0), 0, 3, 7, 4);
        Edge.range("moves(0, 7, n)", SIX, (x, n) -> x.moves(0, 7, n), 0, 5, 20, 0);
        Edge.aside("it is aside", SIX, x -> x.moves(1, 7, 3), 4);
    }

    private static void movesNow() {
        for (int from = 0; from < 8; from++) {
            for (int to = 0; to < 8; to++) {
                CanalRings x = Trial.canal("f99t" + from + "00");
                Trial.due("from " + from + " to " + to, x.moves(0, to, 0), from > to ? from - to : to - from);
            }
        }
    }

    /** A CELL's end holds what would be beyond it; by none: NONE. */
    private static void movesAtTheEnds() {
        CanalRings x = Trial.canal("f91t000r000d700s000b000c000");
        Trial.due("thing to 7 in 6", x.moves(0, 7, 6), 1);
        Trial.due("thing to 7 in 7", x.moves(0, 7, 7), 0);
        Trial.due("thing to 7 in 8", x.moves(0, 7, 8), 0);
        Trial.due("thing to 6 in 6", x.moves(0, 6, 6), 0);
        Trial.due("ring to 7 in 3", x.moves(1, 7, 3), 1);
        Trial.due("ring to 7 in 4", x.moves(1, 7, 4), 0);
        Trial.due("doll to 0 in 3", x.moves(2, 0, 3), 1);
        Trial.due("doll to 0 in 4", x.moves(2, 0, 4), 0);
        Trial.due("safe to 7 in 20", x.moves(3, 7, 20), 7);
        Trial.due("bicycle to 7 in 13", x.moves(4, 7, 13), 0);
        Trial.due("bicycle to 7 in 12", x.moves(4, 7, 12), 1);
        Trial.due("chair to 7 in 14", x.moves(5, 7, 14), 0);
        Trial.due("chair to 7 in 13", x.moves(5, 7, 13), 1);
        Edge.aside("thing to 0 in 1", Edge.canal("f91t000"), y -> y.moves(0, 0, 1), Edge.NONE);
        Edge.aside("thing to 6 in 7", Edge.canal("f91t000"), y -> y.moves(0, 6, 7), Edge.NONE);
        Edge.aside("doll to 7 in 1", Edge.canal("f91d790"), y -> y.moves(0, 7, 1), Edge.NONE);
        Edge.aside("doll to 1 in 20", Edge.canal("f91d790"), y -> y.moves(0, 1, 20), Edge.NONE);
        Trial.due("level 0: thing to 0 in 20", Trial.canal("f90t700").moves(0, 0, 20), 7);
        // From 5 and from 7 alike it comes to 7: the nearer one counts.
        Trial.due("the nearest of many", Trial.canal("f91r300").moves(0, 7, 1), 2);
    }

    /** "BAD; STATE: it is TAKEN." */
    private static void movesRefusals() {
        Edge.refused("TAKEN", RICH, x -> x.moves(5, 0, 0), Edge.STATE);
        Edge.refused("TAKEN, the last", RICH, x -> x.moves(5, 7, 20), Edge.STATE);
        Edge.refused("BAD ahead of STATE, c 8", RICH, x -> x.moves(5, 8, 0), Edge.BAD);
        Edge.refused("BAD ahead of STATE, c -1", RICH, x -> x.moves(5, -1, 0), Edge.BAD);
        Edge.refused("BAD ahead of STATE, c NONE", RICH, x -> x.moves(5, Edge.NONE, 0), Edge.BAD);
        Edge.refused("BAD ahead of STATE, n 21", RICH, x -> x.moves(5, 0, 21), Edge.BAD);
        Edge.refused("BAD ahead of STATE, n -1", RICH, x -> x.moves(5, 0, -1), Edge.BAD);
        Edge.refused("no THINGS", BARE, x -> x.moves(0, 0, 0), Edge.BAD);
    }

    private static void ownedNumbers() {
        Edge.range("owned(n), still", Edge.canal("f90t205t507"), (x, n) -> x.owned(n), 0, 5, 20, 5);
        Edge.range("owned(n), to 7", Edge.canal("f91t207r507"), (x, n) -> x.owned(n), 0, 7, 20, 0);
        Edge.aside("it is aside", SIX, x -> x.owned(1), 7);
    }

    /** "The fewest MOVES now of all together": none, and 42 of six. */
    private static void ownedSums() {
        Trial.due("all by their GATES", Trial.canal("f90t000t707t303").owned(0), 0);
        Trial.due("all as far as can be", Trial.canal("f90t007t700t007t700t007t700").owned(20), 42);
        Trial.due("one alone", Trial.canal("f90t007").owned(0), 7);
        Trial.due("several may lie by one GATE", Trial.canal("f90t104t704t404").owned(5), 6);
    }

    /** "NONE: by none": if one of them can't. */
    private static void ownedNone() {
        Edge.aside("the first can't", Edge.canal("f91t000s303"), x -> x.owned(1), Edge.NONE);
        Edge.aside("the last can't", Edge.canal("f91s303t000"), x -> x.owned(1), Edge.NONE);
        Edge.aside("alone", Edge.canal("f91d707"), x -> x.owned(20), Edge.NONE);
        Trial.due("now each can", Trial.canal("f91d707").owned(0), 0);
    }

    /** "each THING that is not TAKEN" */
    private static void ownedTaken() {
        CanalRings x = Trial.canal("f90t007s303");
        Trial.due("both", x.owned(0), 7);
        x.take(0);
        Trial.due("one is TAKEN", x.owned(0), 0);
        x.take(1);
        Trial.due("all are TAKEN", x.owned(0), 0);
        x.paddle(1);
        Trial.due("all are TAKEN, 20 YEARS", x.owned(20), 0);
        CanalRings barred = Edge.canal("f90t000s303", y -> y.take(0), y -> y.paddle(1)).get();
        Trial.due("the one that can't is TAKEN", barred.owned(1), 0);
    }

    /** "BAD; STATE: no THINGS." */
    private static void ownedRefusals() {
        Edge.refused("no THINGS", BARE, x -> x.owned(0), Edge.STATE);
        Edge.refused("no THINGS, 20", BARE, x -> x.owned(20), Edge.STATE);
        Edge.refused("BAD ahead of STATE, 21", BARE, x -> x.owned(21), Edge.BAD);
        Edge.refused("BAD ahead of STATE, -1", BARE, x -> x.owned(-1), Edge.BAD);
    }

    private static void thrownNumbers() {
        Edge.range("thrown(i, 7, 20)", SIX, (x, i) -> x.thrown(i, 7, 20), 0, 255, 5, 255);
        Edge.range("thrown(4, c, 20)", SIX, (x, c) -> x.thrown(4, c, 20), 0, 1, 7, 128);
        Edge.range("thrown(0, 7, n)", SIX, (x, n) -> x.thrown(0, 7, n), 0, 128, 20, 255);
        Edge.aside("it is aside", SIX, x -> x.thrown(1, 4, 2), 4);
    }

    /** "From which CELLS (bits)": none, one, those that the end holds, all. */
    private static void thrownBits() {
        CanalRings x = Trial.canal("f91t300r300d300s300b300c300");
        Trial.due("thing, end, 1", x.thrown(0, 7, 1), 0b11000000);
        Trial.due("thing, end, 6", x.thrown(0, 7, 6), 0b11111110);
        Trial.due("thing, end, 7", x.thrown(0, 7, 7), 255);
        Trial.due("thing, 0, 1", x.thrown(0, 0, 1), 0);
        Trial.due("thing, 6, 7", x.thrown(0, 6, 7), 0);
        Trial.due("ring, end, 1", x.thrown(1, 7, 1), 0b11100000);
        Trial.due("doll, 0, 1", x.thrown(2, 0, 1), 0b111);
        Trial.due("doll, 5, 1", x.thrown(2, 5, 1), 128);
        Trial.due("doll, 6, 1", x.thrown(2, 6, 1), 0);
        Trial.due("bicycle, end, 1", x.thrown(4, 7, 1), 0b11000000);
        Trial.due("chair, end, 1", x.thrown(5, 7, 1), 128);
        x.year();
        Trial.due("bicycle, end, 1, odd", x.thrown(4, 7, 1), 128);
        Trial.due("chair, end, 1, odd", x.thrown(5, 7, 1), 0b11000000);
    }

    /** Only BAD is named: one that is TAKEN could be thrown in, too. */
    private static void thrownOfTaken() {
        Edge.aside("TAKEN, now", RICH, x -> x.thrown(5, 3, 0), 8);
        CanalRings x = Edge.canal("f90t300", y -> y.take(0), y -> y.paddle(1)).get();
        Trial.due("TAKEN, in 7", x.thrown(0, 7, 7), 255);
    }

    private static void thrownRefusals() {
        Edge.refused("no THINGS", BARE, x -> x.thrown(0, 0, 0), Edge.BAD);
        Edge.refused("TAKEN, c 8", RICH, x -> x.thrown(5, 8, 0), Edge.BAD);
        Edge.refused("TAKEN, c NONE", RICH, x -> x.thrown(5, Edge.NONE, 0), Edge.BAD);
        Edge.refused("TAKEN, n 21", RICH, x -> x.thrown(5, 0, 21), Edge.BAD);
    }
}
