import java.util.function.Supplier;

/** Boundary cases of 'Terms', which hold for all promises. Promises' own refusals are in the other Edge tests. */
public final class EdgeTermsTest {
    private static final Supplier<CanalRings> BARE = CanalRings::new;
    private static final Supplier<CanalRings> RICH = Edge::rich;
    /** As rich() is, with 40 DEEDS. */
    private static final Supplier<CanalRings> RICH_FULL = () -> {
        CanalRings x = Edge.rich();
        Trial.fillUpDeeds(x);
        return x;
    };
    /** All THINGS are TAKEN, the LEVEL is 3. */
    private static final Supplier<CanalRings> ALL_TAKEN = () -> {
        CanalRings x = Trial.canal("f90t000r100s200b300d400c500");
        for (int i = 0; i < 6; i++) x.take(i);
        x.paddle(1);
        x.keep(1);
        return x;
    };

    public static void main(String[] args) {
        richIsOtherwiseThanNew();
        badAheadOfAll();
        stateOfNoThings();
        stateOfTaken();
        fullOfDeeds();
        findingsOfEachCall();
        noneChangesNothing();
        setsByBits();
        lowestTerms();
        lastPromisedCall();
        Trial.end("EdgeTermsTest");
    }

    /** What "changes nothing" is looked at by can't be told from a new object's by chance. */
    private static void richIsOtherwiseThanNew() {
        CanalRings x = Edge.rich();
        int[] counts = {6, 2, 9, 3, 5, 32, 2, 2, 3, 3, 2};
        for (int what = 0; what <= 10; what++) Trial.due("rich count(" + what + ")", x.count(what), counts[what]);
        Trial.due("rich asked()", x.asked(), -8);
        Trial.due("rich upper()", x.upper(), 1);
        Trial.due("rich lower()", x.lower(), 16);
        Trial.due("rich finding()", x.finding(), Edge.UNLIKE);
        for (int f = 1; f <= 5; f++) Trial.due("rich findings(" + f + ")", x.findings(f), 1);
        Trial.due("rich kept in 0", x.on(0), 4);
        Trial.due("rich kept in 2", x.on(2), 7);
    }

    /** "BAD -1 (a number that is none ...)" comes first in whatever state, and changes nothing. */
    private static void badAheadOfAll() {
        Edge.Call[] bad = {
            x -> x.row(6, -1), x -> x.row(0, 41), x -> x.lay(-1, 99, 1), x -> x.at(6, 99), x -> x.tear(6),
            x -> x.copy(6, 99, 2, 99, -1), x -> x.copy(2, 99, -1, 99, -1), x -> x.mean(-1), x -> x.text(4, -1),
            x -> x.text(0, 61), x -> x.put(4, 99, 1), x -> x.fault(-1), x -> x.canal(4), x -> x.thing(6, 0),
            x -> x.thing(0, 5), x -> x.mark(6, 1), x -> x.mark(0, 0), x -> x.mark(0, 6), x -> x.cell(8),
            x -> x.paddle(2), x -> x.move(6, 1), x -> x.move(0, 0), x -> x.take(6), x -> x.undo(41), x -> x.undo(-1),
            x -> x.keep(3), x -> x.on(3), x -> x.lies(6, 0), x -> x.lies(5, 61), x -> x.moves(6, 0, 0),
            x -> x.moves(5, 8, 0), x -> x.moves(5, 0, 21), x -> x.owned(21), x -> x.thrown(6, 0, 0),
            x -> x.thrown(5, 8, 0), x -> x.thrown(5, 0, 21), x -> x.stand(6), x -> x.level(10), x -> x.home(6),
            x -> x.stops(6), x -> x.starts(6, 2), x -> x.starts(0, 6), x -> x.weights(6, 2), x -> x.weights(5, 6),
            x -> x.kinds(6, 2), x -> x.kinds(5, 6), x -> x.night(6, 0, 7, 0), x -> x.night(5, 8, 7, 0),
            x -> x.night(5, 0, 8, 0), x -> x.night(5, 0, 0, 0), x -> x.night(5, 0, 7, 4), x -> x.odds(6, 0, 0, 0),
            x -> x.odds(5, 8, 0, 0), x -> x.odds(5, 0, 7, 0), x -> x.odds(5, 0, 0, 13), x -> x.mid(6, 0, 0),
            x -> x.mid(5, 7, 0), x -> x.mid(5, 0, 13), x -> x.lots(0, 1), x -> x.lots(21, 1), x -> x.lots(20, 0),
            x -> x.count(11), x -> x.findings(6)};
        for (int k = 0; k < bad.length; k++) {
            Edge.refused("BAD " + k + ", rich", RICH, bad[k], Edge.BAD);
            Edge.refused("BAD " + k + ", new", BARE, bad[k], Edge.BAD);
            Edge.refused("BAD " + k + ", 40 DEEDS", RICH_FULL, bad[k], Edge.BAD);
            Edge.refused("BAD " + k + ", all TAKEN", ALL_TAKEN, bad[k], Edge.BAD);
        }
    }

    /** "STATE -4 (not now)": no THINGS; ROWS and TEXTS that are there don't help. */
    private static void stateOfNoThings() {
        Edge.Call[] calls = {x -> x.year(), x -> x.paddle(0), x -> x.paddle(1), x -> x.keep(0), x -> x.three(),
            x -> x.owned(0), x -> x.stand(0), x -> x.level(0), x -> x.lots(1, 1)};
        for (int k = 0; k < calls.length; k++) {
            Edge.refused("STATE " + k + ", new", BARE, calls[k], Edge.STATE);
            Edge.refused("STATE " + k + ", ROWS", () -> Edge.allRows(4), calls[k], Edge.STATE);
            Edge.refused("STATE " + k + ", TEXTS", () -> Edge.allTexts(4), calls[k], Edge.STATE);
            Edge.Call call = calls[k];
            Trial.due("not STATE " + k + ", all TAKEN", call.of(ALL_TAKEN.get()) != Edge.STATE ? 1 : 0, 1);
        }
    }

    /** "STATE: it is TAKEN": all calls that name it, and those that don't. */
    private static void stateOfTaken() {
        for (int i = 0; i < 6; i++) {
            int taken = i;
            Edge.Call[] named = {x -> x.move(taken, 1), x -> x.move(taken, -1), x -> x.take(taken),
                x -> x.lies(taken, 0), x -> x.moves(taken, 0, 0), x -> x.home(taken), x -> x.stops(taken),
                x -> x.night(taken, 0, 7, 0), x -> x.odds(taken, 0, 0, 0), x -> x.mid(taken, 0, 0)};
            for (int k = 0; k < named.length; k++) {
                Edge.refused("TAKEN " + k + " of " + i, ALL_TAKEN, named[k], Edge.STATE);
            }
            CanalRings x = ALL_TAKEN.get();
            x.row(0, 0);
            Trial.due("weights()", x.weights(i, 0), Edge.STATE);
            Trial.due("kinds()", x.kinds(i, 0), Edge.STATE);
            Trial.due("starts()", x.starts(i, 0), 255);
            Trial.due("thing()", x.thing(i, 1), 1);
            Trial.due("thrown()", x.thrown(i, 3, 0), 8);
            Trial.due("mark() by its KIND", i == 0 ? 0 : x.mark(i, i) < 0 ? 1 : 0, 0);
        }
    }

    /** "FULL -2" of each DEED, and of nothing else. */
    private static void fullOfDeeds() {
        Edge.Call[] deeds = {x -> x.year(), x -> x.paddle(0), x -> x.paddle(1), x -> x.move(0, 1), x -> x.move(0, -1),
            x -> x.lots(1, 1), x -> x.lots(20, 2147483646)};
        for (int k = 0; k < deeds.length; k++) Edge.refused("FULL " + k, RICH_FULL, deeds[k], Edge.FULL);
        CanalRings x = RICH_FULL.get();
        Trial.due("row", x.row(5, 40), 40);
        Trial.due("text", x.text(2, 60), 60);
        Trial.due("keep", x.keep(1), 40);
        Trial.due("stand", x.stand(5) >= 0 ? 1 : 0, 1);
        Trial.due("level", x.level(9), 0);
        Trial.due("canal", x.canal(0), 6);
    }

    /** "FINDINGS: 1 NOTHING, 2 BEYOND, 3 UNLIKE, 4 NOUGHT, 5 SIZE": each call that names one. */
    private static void findingsOfEachCall() {
        Edge.Call[][] calls = {{},
            {x -> x.lay(2, 0, 1), x -> x.at(2, 0), x -> x.tear(2), x -> x.copy(0, 0, 2, 0, 1),
                x -> x.copy(2, 0, 0, 0, 1), x -> x.mean(2), x -> x.put(2, 0, 1), x -> x.fault(2), x -> x.canal(2),
                x -> x.on(1), x -> x.starts(0, 2), x -> x.weights(0, 2), x -> x.kinds(0, 2), x -> x.weights(5, 2),
                x -> x.kinds(5, 2)},
            {x -> x.lay(0, 3, 1), x -> x.lay(1, 0, 1), x -> x.at(0, -1), x -> x.at(3, 40), x -> x.copy(0, 0, 3, 0, 4),
                x -> x.copy(0, 0, 1, 0, 1), x -> x.put(1, 0, 1), x -> x.put(3, 60, 1), x -> x.put(3, -1, 1)},
            {x -> x.mark(0, 5), x -> x.mark(1, 4), x -> x.mark(4, 5), x -> x.mark(5, 4)},
            {x -> x.mean(1)},
            {x -> x.row(0, -1), x -> x.row(2, -1), x -> x.text(0, -1), x -> x.text(2, -1), x -> x.copy(0, 0, 3, 0, -1),
                x -> x.starts(0, 0), x -> x.weights(0, 0), x -> x.kinds(0, 0), x -> x.starts(0, 3),
                x -> x.weights(5, 3), x -> x.kinds(5, 3)}};
        for (int f = 1; f <= 5; f++) {
            for (int k = 0; k < calls[f].length; k++) {
                Edge.finds("FINDING " + f + ", " + k, RICH, calls[f][k], f);
                Edge.finds("FINDING " + f + ", " + k + ", 40 DEEDS", RICH_FULL, calls[f][k], f);
            }
        }
    }

    /** "NONE -9" is an answer: it tells nothing, finds nothing, changes nothing. */
    private static void noneChangesNothing() {
        Edge.aside("fault()", RICH, x -> x.fault(0), Edge.NONE);
        Edge.aside("moves()", RICH, x -> x.moves(0, 0, 1), Edge.NONE);
        Edge.aside("owned()", RICH, x -> x.owned(20), Edge.NONE);
        Edge.aside("home()", RICH, x -> x.home(0), Edge.NONE);
        Edge.aside("three()", ALL_TAKEN, x -> x.three(), Edge.NONE);
    }

    /** "Sets ... are told by bits": the empty one is 0, the whole one has all of them. */
    private static void setsByBits() {
        CanalRings x = Trial.canal("f91" + "s700".repeat(6));
        Trial.due("THINGS: all", x.cell(7), 63);
        Trial.due("THINGS: none", x.cell(6), 0);
        Trial.due("CELLS: all", Trial.canal("f91t000").thrown(0, 7, 7), 255);
        Trial.due("CELLS: none", Trial.canal("f91t000").thrown(0, 0, 7), 0);
        x.row(0, 0);
        Trial.due("CELLS: all, by no pairs", x.starts(0, 0), 255);
        Trial.due("WEIGHTS: all", x.weights(0, 0), 1023);
        Trial.due("KINDS: all", x.kinds(0, 0), 63);
        Trial.layAll(x, 0, 0, 6);
        Trial.due("CELLS: one", x.starts(0, 0), 64);
        Trial.due("WEIGHTS: none", x.weights(0, 0), 0);
        Trial.due("KINDS: none", x.kinds(0, 0), 0);
        CanalRings low = Trial.canal("f00" + "t000".repeat(6));
        Trial.due("TAKEN: none", low.count(5), 0);
        for (int i = 0; i < 6; i++) {
            low.take(i);
            Trial.due("TAKEN up to " + i, low.count(5), (1 << i + 1) - 1);
        }
        Trial.due("PEOPLE: none", Trial.canal("f00t000").stops(0), 0);
    }

    /** "in lowest terms, the lower number above 0 (0 by 1)": whatever is told, no number divides both. */
    private static void lowestTerms() {
        for (int p = 0; p <= 12; p++) {
            for (int n = 0; n <= 6; n++) {
                CanalRings x = Trial.canal(Trial.SIX);
                for (int i = 0; i < 6; i++) {
                    for (int c = 0; c < 8; c++) {
                        x.odds(i, c, n, p);
                        lowest("odds", x.upper(), x.lower());
                    }
                    x.mid(i, n, p);
                    lowest("mid", x.upper(), x.lower());
                }
            }
        }
    }

    private static void lowest(String call, long upper, long lower) {
        Trial.due(call + ": the lower number is above 0", lower > 0 ? 1 : 0, 1);
        Trial.due(call + ": the upper number is not below 0", upper >= 0 ? 1 : 0, 1);
        Trial.due(call + ": 0 by 1", upper == 0 ? lower : 1, 1);
        // The lower number comes from 12s alone.
        Trial.due(call + ": no 2 in both", upper % 2 == 0 && lower % 2 == 0 ? 1 : 0, 0);
        Trial.due(call + ": no 3 in both", upper % 3 == 0 && lower % 3 == 0 ? 1 : 0, 0);
    }

    /** "at most 512 calls": the 512th is answered as the first ones are. */
    private static void lastPromisedCall() {
        CanalRings x = new CanalRings();
        for (int k = 1; k <= 511; k++) {
            int n = k % 41;
            Trial.due("row, call " + k, x.row(k % 6, n), n);
        }
        Trial.due("call 512", x.count(8), 6);
        CanalRings y = new CanalRings();
        String signs = "f56t233";
        y.text(0, 7);
        for (int i = 0; i < 7; i++) y.put(0, i, signs.charAt(i));
        for (int k = 9; k <= 511; k++) Trial.due("canal, call " + k, y.canal(0), 1);
        Trial.due("year, call 512", y.year(), 1);
    }
}
