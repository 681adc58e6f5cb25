/** Promises 10 and 11: the small language, its faults, a canal by a text. */
public final class CanalTextTest {
    public static void main(String[] args) {
        faults();
        faultRefusals();
        canals();
        canalRefusals();
        Trial.end("CanalTextTest");
    }

    private static void fault(String signs, int want) {
        CanalRings x = new CanalRings();
        Trial.write(x, 1, signs);
        Trial.due("fault of '" + signs + "'", x.fault(1), want);
        Trial.due("canal of '" + signs + "'", x.canal(1) > 0 ? 1 : 0, want == CanalRings.NONE ? 1 : 0);
    }

    private static void faults() {
        fault("", 0);
        fault("    ", 4);
        fault("f", 1);
        fault("f0", 2);
        fault("f00", 3);
        fault("f00  ", 5);
        fault("f00t", 4);
        fault("f00t0", 5);
        fault("f00t00", 6);
        fault("f00t000", CanalRings.NONE);
        fault("  f99   c797   ", CanalRings.NONE);
        fault("t000", 0);
        fault(" g00t000", 1);
        fault("F00t000", 0);
        fault("f 00t000", 1);
        fault("f0 0t000", 2);
        fault("fa0t000", 1);
        fault("f0:t000", 2);
        fault("f0/t000", 2);
        fault("f00f00", 3);
        fault("f00x000", 3);
        fault("f00T000", 3);
        fault("f000t000", 3);
        fault("f00t 000", 4);
        fault("f00t0 00", 5);
        fault("f00t00 0", 6);
        fault("f00t800", 4);
        fault("f00t700", CanalRings.NONE);
        fault("f00t090", CanalRings.NONE);
        fault("f00t0:0", 5);
        fault("f00t008", 6);
        fault("f00t007", CanalRings.NONE);
        fault("f00t0000", 7);
        for (char letter = 1; letter < 127; letter++) {
            if (letter != ' ') fault("f00" + letter + "000", "trsbdc".indexOf(letter) >= 0 ? CanalRings.NONE : 3);
        }
        String six = "f00t000r000s000b000d000c000";
        fault(six, CanalRings.NONE);
        fault(six + " ", CanalRings.NONE);
        fault(six + "  t000", 29);
        fault(six + "x", 27);
        fault(six + "0", 27);
    }

    private static void faultRefusals() {
        CanalRings x = new CanalRings();
        Trial.finds("fault of a missing text", x, () -> x.fault(0), Trial.NOTHING);
        Trial.refused("fault(-1)", x, () -> x.fault(-1), CanalRings.BAD);
        Trial.refused("fault(4)", x, () -> x.fault(4), CanalRings.BAD);
        Trial.write(x, 0, "f00t000");
        x.put(0, 3, 't' + 256);
        Trial.due("cut to a letter", x.fault(0), CanalRings.NONE);
        x.put(0, 3, 200);
        Trial.due("a byte below 0", x.fault(0), 3);
        Trial.write(x, 3, "f00t000");
        x.put(3, 0, 9);
        Trial.due("a tab is no blank", x.fault(3), 0);
    }

    private static void canals() {
        CanalRings x = Trial.canal("  f94 d127  c693");
        int[] want = {2, 0, 0, 4, 9, 0, 1, 1, 0, 1, 0};
        for (int what = 0; what < want.length; what++) Trial.due("count(" + what + ")", x.count(what), want[what]);
        int[][] facts = {{4, 1, 2, 7, -2}, {5, 6, 9, 3, 0}};
        for (int i = 0; i < 2; i++) {
            for (int what = 0; what < 5; what++) Trial.asks("fact", x, x.thing(i, what), facts[i][what]);
        }
        x.year();
        x.paddle(0);
        x.keep(0);
        x.keep(2);
        Trial.due("kept", x.count(10), 2);
        Trial.write(x, 3, "f01 t777");
        Trial.due("another canal", x.canal(3), 1);
        int[] anew = {1, 0, 0, 1, 0, 0, 0, 0, 0, 2, 0};
        for (int what = 0; what < anew.length; what++) Trial.due("anew count(" + what + ")", x.count(what), anew[what]);
        Trial.finds("kept canals go", x, () -> x.on(0), Trial.NOTHING);
        Trial.due("asked() stays", x.asked(), 0);
        Trial.due("the same once more", x.canal(3), 1);
        x.put(3, 0, 'x');
        Trial.due("the text is no part of the canal", x.count(0), 1);
    }

    private static void canalRefusals() {
        CanalRings x = Trial.canal(Trial.SIX);
        x.year();
        x.keep(1);
        Trial.refused("canal(-1)", x, () -> x.canal(-1), CanalRings.BAD);
        Trial.refused("canal(4)", x, () -> x.canal(4), CanalRings.BAD);
        Trial.finds("canal of a missing text", x, () -> x.canal(2), Trial.NOTHING);
        Trial.write(x, 2, "f00 t777 t00");
        Trial.refused("canal with a fault", x, () -> x.canal(2), CanalRings.STATE);
        Trial.due("things stay as they were", x.lies(0, 0), 3);
    }
}
