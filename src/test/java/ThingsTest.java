/** Promises 12 to 14: what a thing is, what it tells as one of a kind, which lie in a cell. */
public final class ThingsTest {
    public static void main(String[] args) {
        drifts();
        thing();
        thingRefusals();
        rings();
        safes();
        bicycles();
        dollsAndChairs();
        markRefusals();
        cell();
        Trial.end("ThingsTest");
    }

    /** By kind: drift on an even year, on an odd one; with the flow above the weight, and as much as it. */
    private static void drifts() {
        String letters = "trsbdc";
        int[][] strong = {{1, 1}, {2, 2}, {0, 0}, {1, 0}, {-2, -2}, {0, 1}};
        int[][] weak = {{0, 0}, {1, 1}, {0, 0}, {0, 0}, {-1, -1}, {0, 1}};
        for (int kind = 0; kind < 6; kind++) {
            for (int year = 0; year < 4; year++) {
                CanalRings x = Trial.canal("f33" + letters.charAt(kind) + "320 " + letters.charAt(kind) + "430");
                for (int k = 0; k < year; k++) x.year();
                Trial.asks("strong " + kind, x, x.thing(0, 4), strong[kind][year % 2]);
                Trial.asks("weak " + kind, x, x.thing(1, 4), weak[kind][year % 2]);
                Trial.asks("kind", x, x.thing(0, 0), kind);
            }
        }
    }

    private static void thing() {
        CanalRings x = Trial.canal("f91 r701 d002 t314");
        Trial.asks("beyond 7", x, x.thing(0, 4), 2);
        Trial.asks("beyond 0", x, x.thing(1, 4), -2);
        x.paddle(0);
        Trial.asks("level 0", x, x.thing(0, 4), 0);
        Trial.asks("cell", x, x.thing(2, 1), 3);
        Trial.asks("weight", x, x.thing(2, 2), 1);
        Trial.asks("gate", x, x.thing(2, 3), 4);
        x.take(2);
        Trial.asks("cell of a taken one", x, x.thing(2, 1), CanalRings.NONE);
        Trial.asks("gate of a taken one", x, x.thing(2, 3), 4);
        x.paddle(1);
        Trial.asks("drift of a taken one", x, x.thing(2, 4), 1);
    }

    private static void thingRefusals() {
        CanalRings none = new CanalRings();
        Trial.refused("thing of none", none, () -> none.thing(0, 0), CanalRings.BAD);
        CanalRings x = Trial.canal(Trial.SIX);
        Trial.refused("thing(-1, 0)", x, () -> x.thing(-1, 0), CanalRings.BAD);
        Trial.refused("thing(6, 0)", x, () -> x.thing(6, 0), CanalRings.BAD);
        Trial.refused("thing(0, -1)", x, () -> x.thing(0, -1), CanalRings.BAD);
        Trial.refused("thing(0, 5)", x, () -> x.thing(0, 5), CanalRings.BAD);
    }

    private static void rings() {
        CanalRings x = Trial.canal("f30 r020 r030 r090 d040 t000");
        Trial.due("lacks none", x.mark(0, 1), 0);
        Trial.due("lacks 1", x.mark(1, 1), 1);
        Trial.due("lacks 7", x.mark(2, 1), 7);
        Trial.due("doll as a ring", x.mark(3, 1), 2);
        CanalRings swift = Trial.canal("f90 r000");
        Trial.due("flow enough and to spare", swift.mark(0, 1), 0);
        x.take(2);
        Trial.due("taken ring", x.mark(2, 1), 7);
    }

    private static void safes() {
        CanalRings x = Trial.canal("f00 s300 c300 t300 s400");
        Trial.due("two others", x.mark(0, 2), 2);
        Trial.due("chair as a safe", x.mark(1, 2), 2);
        Trial.due("alone", x.mark(3, 2), 0);
        x.take(2);
        Trial.due("one taken", x.mark(0, 2), 1);
        x.take(0);
        Trial.due("it is taken", x.mark(0, 2), 0);
        x.take(3);
        Trial.due("both taken", x.mark(3, 2), 0);
    }

    private static void bicycles() {
        CanalRings x = Trial.canal("f00 b390");
        for (int year = 0; year < 5; year++) {
            Trial.due("in how many years", x.mark(0, 3), year % 2);
            x.year();
        }
    }

    private static void dollsAndChairs() {
        CanalRings x = Trial.canal("f00 d000 r000 d000 t000 c200 c700");
        Trial.due("rings, dolls too", x.mark(0, 4), 3);
        Trial.due("behind 2", x.mark(4, 5), 5);
        Trial.due("behind 7", x.mark(5, 5), 0);
        x.take(1);
        Trial.due("a taken ring is still one", x.mark(0, 4), 3);
        x.take(4);
        Trial.due("taken chair", x.mark(4, 5), 0);
        Trial.due("mark tells nothing by asked()", x.asked(), 0);
    }

    private static void markRefusals() {
        boolean[][] is = new boolean[6][6];
        for (int kind = 0; kind < 6; kind++) is[kind][kind] = true;
        is[4][1] = true;
        is[5][2] = true;
        for (int i = 0; i < 6; i++) {
            CanalRings x = Trial.canal("f00 t000 r000 s000 b000 d000 c000");
            for (int k = 1; k < 6; k++) {
                int thing = i;
                int kind = k;
                if (is[i][k]) Trial.due("mark(" + i + ", " + k + ")", x.mark(i, k) >= 0 ? 1 : 0, 1);
                else Trial.finds("mark(" + i + ", " + k + ")", x, () -> x.mark(thing, kind), Trial.UNLIKE);
            }
        }
        CanalRings x = Trial.canal("f00 t000 r000 s000 b000 d000 c000");
        Trial.refused("mark(0, 0)", x, () -> x.mark(0, 0), CanalRings.BAD);
        Trial.refused("mark(0, -1)", x, () -> x.mark(0, -1), CanalRings.BAD);
        Trial.refused("mark(0, 6)", x, () -> x.mark(0, 6), CanalRings.BAD);
        Trial.refused("mark(6, 1)", x, () -> x.mark(6, 1), CanalRings.BAD);
        Trial.refused("mark(-1, 1)", x, () -> x.mark(-1, 1), CanalRings.BAD);
    }

    private static void cell() {
        CanalRings x = Trial.canal("f00 t300 r300 s000 b700");
        Trial.due("cell(3)", x.cell(3), 3);
        Trial.due("cell(0)", x.cell(0), 4);
        Trial.due("cell(7)", x.cell(7), 8);
        Trial.due("cell(1)", x.cell(1), 0);
        x.take(0);
        Trial.due("cell(3) then", x.cell(3), 2);
        Trial.refused("cell(-1)", x, () -> x.cell(-1), CanalRings.BAD);
        Trial.refused("cell(8)", x, () -> x.cell(8), CanalRings.BAD);
        Trial.refused("cell(-9)", x, () -> x.cell(-9), CanalRings.BAD);
    }
}
