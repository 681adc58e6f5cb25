import java.util.function.Supplier;

/** Boundary cases of promises 12 to 14, and of how far THINGS DRIFT. */
public final class EdgeThingsTest {
    private static final Supplier<CanalRings> BARE = CanalRings::new;
    private static final Supplier<CanalRings> SIX = Edge.canal(Trial.SIX);
    private static final Supplier<CanalRings> ONE = Edge.canal("f56t233");
    private static final String LETTERS = "trsbdc";
    /** By KIND: on an even YEAR, on an odd one; the FLOW above the WEIGHT, then not so. */
    private static final int[][] SWIFT = {{1, 1}, {2, 2}, {0, 0}, {1, 0}, {-2, -2}, {0, 1}};
    private static final int[][] SLOW = {{0, 0}, {1, 1}, {0, 0}, {0, 0}, {-1, -1}, {0, 1}};

    public static void main(String[] args) {
        flowAndWeight();
        ends();
        levelNought();
        yearNumbers();
        thingNumbers();
        thingFacts();
        thingTaken();
        markNumbers();
        ringLacks();
        safeOthers();
        bicycleYears();
        dollRings();
        chairBehind();
        markUnlike();
        cellNumbers();
        cellBits();
        Trial.end("EdgeThingsTest");
    }

    /** "if the FLOW is more than its WEIGHT": as much is not more; each FLOW, each WEIGHT, each KIND. */
    private static void flowAndWeight() {
        for (int flow = 0; flow <= 9; flow++) {
            for (int weight = 0; weight <= 9; weight++) {
                CanalRings x = Trial.canal(heavy(flow, weight));
                int[][] far = flow > weight ? SWIFT : SLOW;
                for (int year = 0; year < 2; year++) {
                    for (int i = 0; i < 6; i++) {
                        Trial.asks("drift of " + i + ", flow " + flow + ", weight " + weight + ", year " + year,
                            x, x.thing(i, 4), far[i][year]);
                    }
                    x.year();
                }
            }
        }
    }

    private static String heavy(int flow, int weight) {
        StringBuilder s = new StringBuilder("f" + flow + "5");
        for (int kind = 0; kind < 6; kind++) s.append(LETTERS.charAt(kind)).append(3).append(weight).append(0);
        return s.toString();
    }

    /** "Not beyond CELLS 0, 7": from each CELL, on an even and an odd YEAR; thing() 4 tells it beyond CELLS, too. */
    private static void ends() {
        for (int kind = 0; kind < 6; kind++) {
            for (int weight = 0; weight < 2; weight++) {
                for (int cell = 0; cell < 8; cell++) {
                    for (int year = 0; year < 2; year++) {
                        int far = (weight == 0 ? SWIFT : SLOW)[kind][year];
                        // The water comes late, so that nothing DRIFTS until the year that is looked at.
                        CanalRings x = Trial.canal("f10" + LETTERS.charAt(kind) + cell + weight + "0");
                        for (int k = 0; k < year; k++) x.year();
                        x.paddle(1);
                        String what = "kind " + kind + " from " + cell + " in year " + year;
                        Trial.asks(what + " told", x, x.thing(0, 4), far);
                        int to = cell + far < 0 ? 0 : cell + far > 7 ? 7 : cell + far;
                        Trial.due(what + " lies", x.lies(0, 1), to);
                        x.year();
                        Trial.asks(what + " then", x, x.thing(0, 1), to);
                    }
                }
            }
        }
    }

    /** "While the LEVEL is 0 nothing DRIFTS": at 1 it does; by DRAW to 0 it does no more. */
    private static void levelNought() {
        CanalRings one = Trial.canal("f91t300r300s300b300d300c300");
        int[] told = {1, 2, 0, 1, -2, 0};
        for (int i = 0; i < 6; i++) Trial.asks("level 1, thing " + i, one, one.thing(i, 4), told[i]);
        Trial.due("drawn", one.paddle(0), 0);
        for (int i = 0; i < 6; i++) Trial.asks("level 0, thing " + i, one, one.thing(i, 4), 0);
        Trial.due("an even year", one.year(), 1);
        for (int i = 0; i < 6; i++) Trial.asks("level 0, odd year, thing " + i, one, one.thing(i, 4), 0);
        Trial.due("an odd year", one.year(), 2);
        Trial.due("all lie as before", one.cell(3), 63);
        Trial.due("filled", one.paddle(1), 3);
        for (int i = 0; i < 6; i++) Trial.asks("level 3, thing " + i, one, one.thing(i, 4), told[i]);
    }

    /** "by the number that it had": YEAR 0 is even, and 39, the last one that can be passed, is odd. */
    private static void yearNumbers() {
        CanalRings x = Trial.canal("f99b000c000");
        int bicycle = 0;
        int chair = 0;
        for (int year = 0; year < 40; year++) {
            Trial.asks("bicycle in " + year, x, x.thing(0, 4), year % 2 == 0 ? 1 : 0);
            Trial.asks("chair in " + year, x, x.thing(1, 4), year % 2 == 0 ? 0 : 1);
            Trial.due("the year then", x.year(), year + 1);
            if (year % 2 == 0 && bicycle < 7) bicycle++;
            if (year % 2 == 1 && chair < 7) chair++;
            Trial.due("bicycle then", x.lies(0, 0), bicycle);
            Trial.due("chair then", x.lies(1, 0), chair);
        }
    }

    private static void thingNumbers() {
        Edge.range("thing(i, 0) of six", SIX, (x, i) -> x.thing(i, 0), 0, 1, 5, 1);
        Edge.range("thing(i, 0) of one", ONE, (x, i) -> x.thing(i, 0), 0, 1, 0, 1);
        Edge.range("thing(0, what)", SIX, (x, what) -> x.thing(0, what), 0, 1, 4, 1);
        Edge.range("thing(5, what), taken", Edge::rich, (x, what) -> x.thing(5, what), 0, 1, 4, 1);
        for (int what = -1; what <= 5; what++) {
            int asked = what;
            Edge.refused("no THINGS", BARE, x -> x.thing(0, asked), Edge.BAD);
        }
    }

    /** Each fact at both of its ends. */
    private static void thingFacts() {
        CanalRings x = Trial.canal("f91t000c797");
        int[][] want = {{0, 0, 0, 0, 1}, {5, 7, 9, 7, 0}};
        for (int i = 0; i < 2; i++) {
            for (int what = 0; what < 5; what++) {
                Trial.asks("thing(" + i + ", " + what + ")", x, x.thing(i, what), want[i][what]);
            }
        }
    }

    /** "1 the CELL (NONE: TAKEN)"; all else of it is told as before. */
    private static void thingTaken() {
        CanalRings x = Trial.canal("f90r711d026");
        x.take(0);
        x.take(1);
        int[][] low = {{1, Edge.NONE, 1, 1, 0}, {4, Edge.NONE, 2, 6, 0}};
        int[][] high = {{1, Edge.NONE, 1, 1, 2}, {4, Edge.NONE, 2, 6, -2}};
        for (int i = 0; i < 2; i++) {
            for (int what = 0; what < 5; what++) Trial.asks("taken, level 0", x, x.thing(i, what), low[i][what]);
        }
        x.paddle(1);
        x.year();
        for (int i = 0; i < 2; i++) {
            for (int what = 0; what < 5; what++) Trial.asks("taken, level 3", x, x.thing(i, what), high[i][what]);
        }
    }

    /** "BAD: also KIND 0" */
    private static void markNumbers() {
        Supplier<CanalRings> rings = Edge.canal("f00r090r090r090r090r090r090");
        Edge.range("mark(i, 1)", rings, (x, i) -> x.mark(i, 1), 0, 10, 5, 10);
        for (int kind : new int[] {0, -1, 6, Edge.LEAST, Edge.MOST}) {
            for (int i = 0; i < 6; i++) {
                int thing = i;
                Edge.refused("mark(" + i + ", " + kind + ")", SIX, x -> x.mark(thing, kind), Edge.BAD);
            }
        }
        Edge.refused("no THINGS", BARE, x -> x.mark(0, 1), Edge.BAD);
    }

    /** "a RING (DOLL, too) how much FLOW it lacks to DRIFT 2 (0: it does not lack any; the LEVEL aside)" */
    private static void ringLacks() {
        for (int flow = 0; flow <= 9; flow++) {
            for (int weight = 0; weight <= 9; weight++) {
                int lacks = 0;
                while (flow + lacks <= weight) lacks++;
                for (int level = 0; level <= 9; level += 9) {
                    CanalRings x = Trial.canal("f" + flow + level + "r0" + weight + "0d7" + weight + "0");
                    Trial.due("ring, flow " + flow + ", weight " + weight, x.mark(0, 1), lacks);
                    Trial.due("doll, flow " + flow + ", weight " + weight, x.mark(1, 1), lacks);
                    Trial.asks("it drifts 2 if it lacks none", x, x.thing(0, 4),
                        level == 0 ? 0 : lacks == 0 ? 2 : 1);
                }
            }
        }
    }

    /** "a SAFE (CHAIR, too) how many others lie in its CELL (0: it is TAKEN)": from none to five. */
    private static void safeOthers() {
        for (int cell : new int[] {0, 7}) {
            CanalRings x = Trial.canal("f00s" + cell + "00c" + cell + ("00t" + cell).repeat(4) + "00");
            for (int left = 5; left >= 1; left--) {
                Trial.due(left + " others of the safe", x.mark(0, 2), left);
                Trial.due(left + " others of the chair", x.mark(1, 2), left);
                if (left > 1) x.take(left);
            }
            x.take(1);
            Trial.due("none is left beside the safe", x.mark(0, 2), 0);
            Trial.due("the chair is taken", x.mark(1, 2), 0);
            x.take(0);
            Trial.due("the safe is taken, too", x.mark(0, 2), 0);
            Trial.due("all of them are", x.count(5), 63);
        }
        CanalRings beside = Trial.canal("f00s300t200t400");
        Trial.due("those beside count for nothing", beside.mark(0, 2), 0);
    }

    /** "a BICYCLE in how many YEARS it may DRIFT (0: now, 1)" */
    private static void bicycleYears() {
        CanalRings x = Trial.canal("f99b790b000");
        for (int year = 0; year < 4; year++) {
            Trial.due("heavy, at the end, in " + year, x.mark(0, 3), year % 2);
            Trial.due("light, in " + year, x.mark(1, 3), year % 2);
            x.year();
        }
    }

    /** "a DOLL how many RINGS (DOLLS, too) there are": from itself alone to six. */
    private static void dollRings() {
        Trial.due("itself alone", Trial.canal("f00d000t000s000b000c000").mark(0, 4), 1);
        Trial.due("six dolls", Trial.canal("f00d000d000d000d000d000d000").mark(5, 4), 6);
        Trial.due("five rings, too", Trial.canal("f00r000r000r000r000r000d000").mark(5, 4), 6);
    }

    /** "a CHAIR how many CELLS are behind it (towards 7; 0: TAKEN)" */
    private static void chairBehind() {
        for (int cell = 0; cell < 8; cell++) {
            CanalRings x = Trial.canal("f00c" + cell + "00");
            Trial.due("chair in " + cell, x.mark(0, 5), 7 - cell);
            x.take(0);
            Trial.due("chair taken from " + cell, x.mark(0, 5), 0);
        }
    }

    /** "UNLIKE": each KIND as each other one; a RING is no DOLL, a SAFE no CHAIR. */
    private static void markUnlike() {
        Supplier<CanalRings> all = Edge.canal("f00t000r000s000b000d000c000");
        int[][] is = {{}, {1}, {2}, {3}, {4, 1}, {5, 2}};
        for (int i = 0; i < 6; i++) {
            for (int k = 1; k <= 5; k++) {
                int thing = i;
                int kind = k;
                boolean fits = false;
                for (int one : is[i]) fits |= one == k;
                if (!fits) Edge.finds("mark(" + i + ", " + k + ")", all, x -> x.mark(thing, kind), Edge.UNLIKE);
                else Trial.due("mark(" + i + ", " + k + ")", all.get().mark(thing, kind) >= 0 ? 1 : 0, 1);
            }
        }
        Edge.refused("BAD ahead of UNLIKE: no such thing", all, x -> x.mark(6, 1), Edge.BAD);
        Edge.refused("BAD ahead of UNLIKE: KIND 0", all, x -> x.mark(0, 0), Edge.BAD);
        Edge.finds("UNLIKE of a taken one", Edge::rich, x -> x.mark(5, 1), Edge.UNLIKE);
    }

    private static void cellNumbers() {
        Edge.range("cell(c)", Edge.canal("f00t000t700"), (x, c) -> x.cell(c), 0, 1, 7, 2);
        Edge.range("cell(c) without THINGS", BARE, (x, c) -> x.cell(c), 0, 0, 7, 0);
        Edge.refused("cell(NONE), though some are taken", Edge::rich, x -> x.cell(Edge.NONE), Edge.BAD);
    }

    /** "THINGS (bits) that lie in a CELL": none, each alone, all six; a TAKEN one lies in none. */
    private static void cellBits() {
        for (int c = 0; c < 8; c++) {
            CanalRings x = Trial.canal("f00" + ("t" + c + "00").repeat(6));
            for (int other = 0; other < 8; other++) Trial.due("all in " + c, x.cell(other), other == c ? 63 : 0);
            int bits = 63;
            for (int i = 0; i < 6; i++) {
                x.take(i);
                bits -= 1 << i;
                Trial.due("without " + i, x.cell(c), bits);
            }
        }
    }
}
