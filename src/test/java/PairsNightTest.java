/** Promises 31 to 34: by where it lay, by turns. */
public final class PairsNightTest {
    public static void main(String[] args) {
        starts();
        weights();
        kinds();
        refusals();
        taken();
        night();
        nightRefusals();
        Trial.end("PairsNightTest");
    }

    private static void starts() {
        CanalRings x = Trial.canal("f55 t300 r300 d300 s300 b300 c300");
        Trial.layAll(x, 1);
        Trial.due("no pairs", x.starts(0, 1), 255);
        Trial.layAll(x, 1, 0, 4);
        Trial.due("now", x.starts(0, 1), 16);
        Trial.layAll(x, 1, 2, 7);
        Trial.due("thing", x.starts(0, 1), 0xE0);
        Trial.due("ring", x.starts(1, 1), 0xF8);
        Trial.due("doll", x.starts(2, 1), 0);
        Trial.due("safe", x.starts(3, 1), 128);
        Trial.due("bicycle", x.starts(4, 1), 0xC0);
        Trial.layAll(x, 1, 2, 7, 1, 6);
        Trial.due("two pairs, in any order", x.starts(0, 1), 32);
        Trial.layAll(x, 1, 2, 7, 2, 6);
        Trial.due("they can't both be", x.starts(0, 1), 0);
        Trial.layAll(x, 1, 20, 7, 20, 7, 20, 7, 20, 7, 20, 7, 20, 7);
        Trial.due("six pairs", x.starts(0, 1), 255);
        x.year();
        Trial.layAll(x, 1, 1, 7);
        Trial.due("a chair from an odd year on", x.starts(5, 1), 0xC0);
    }

    private static void weights() {
        CanalRings x = Trial.canal("f51 t300 r390 s300 b300");
        Trial.layAll(x, 2, 1, 4);
        Trial.due("thing drifts 1", x.weights(0, 2), 0b11111);
        Trial.due("ring drifts 1", x.weights(1, 2), 0b1111100000);
        Trial.due("safe drifts none", x.weights(2, 2), 0);
        Trial.layAll(x, 2, 1, 3);
        Trial.due("thing drifts none", x.weights(0, 2), 0b1111100000);
        Trial.due("safe of any weight", x.weights(2, 2), 1023);
        Trial.layAll(x, 2);
        Trial.due("no pairs", x.weights(0, 2), 1023);
        Trial.layAll(x, 2, 0, 4);
        Trial.due("it does not lie so now", x.weights(0, 2), 0);
        x.year();
        Trial.layAll(x, 2, 2, 5);
        Trial.due("from an odd year on", x.weights(3, 2), 0b11111);
    }

    private static void kinds() {
        CanalRings x = Trial.canal("f51 t300");
        Trial.layAll(x, 3, 1, 4);
        Trial.due("1 on", x.kinds(0, 3), 1 << 0 | 1 << 3);
        Trial.layAll(x, 3, 1, 5);
        Trial.due("2 on", x.kinds(0, 3), 1 << 1);
        Trial.layAll(x, 3, 1, 3);
        Trial.due("none", x.kinds(0, 3), 1 << 2 | 1 << 5);
        Trial.layAll(x, 3, 1, 1);
        Trial.due("back", x.kinds(0, 3), 1 << 4);
        Trial.layAll(x, 3, 2, 4);
        Trial.due("1 on in 2", x.kinds(0, 3), 1 << 3 | 1 << 5);
        x.paddle(0);
        Trial.layAll(x, 3, 20, 3);
        Trial.due("level 0", x.kinds(0, 3), 63);
    }

    private static void refusals() {
        pairRefusal("missing row", Trial.canal("f00 t300 t300"), 0, 1, 0, Trial.NOTHING);
        pairRefusal("half a pair", laid(3), 0, 1, 0, Trial.SIZE);
        pairRefusal("SIZE ahead of UNLIKE", laid(99, 99, 99), 0, 1, 0, Trial.SIZE);
        pairRefusal("13", laid(new int[13]), 0, 1, 0, Trial.SIZE);
        pairRefusal("seven pairs", laid(new int[14]), 0, 1, 0, Trial.SIZE);
        pairRefusal("21 years", laid(21, 0), 0, 1, 0, Trial.UNLIKE);
        pairRefusal("-1 years", laid(-1, 0), 0, 1, 0, Trial.UNLIKE);
        pairRefusal("cell 8", laid(0, 8), 0, 1, 0, Trial.UNLIKE);
        CanalRings last = laid(0, 0, 0, 0, 0, 0, 0, 0, 0, 0, 20, -1);
        pairRefusal("cell -1, last", last, 0, 1, 0, Trial.UNLIKE);
        pairRefusal("thing 2", last, 2, 1, CanalRings.BAD, 0);
        pairRefusal("thing -1", last, -1, 1, CanalRings.BAD, 0);
        pairRefusal("row 6", last, 0, 6, CanalRings.BAD, 0);
        pairRefusal("row -1", last, 0, -1, CanalRings.BAD, 0);
        pairRefusal("no things", new CanalRings(), 0, 0, CanalRings.BAD, 0);
    }

    private static CanalRings laid(int... numbers) {
        CanalRings x = Trial.canal("f00 t300 t300");
        Trial.layAll(x, 1, numbers);
        return x;
    }

    private static void pairRefusal(String why, CanalRings x, int i, int r, int want, int finding) {
        if (finding == 0) {
            Trial.refused("starts " + why, x, () -> x.starts(i, r), want);
            Trial.refused("weights " + why, x, () -> x.weights(i, r), want);
            Trial.refused("kinds " + why, x, () -> x.kinds(i, r), want);
        } else {
            Trial.finds("starts " + why, x, () -> x.starts(i, r), finding);
            Trial.finds("weights " + why, x, () -> x.weights(i, r), finding);
            Trial.finds("kinds " + why, x, () -> x.kinds(i, r), finding);
        }
    }

    private static void taken() {
        CanalRings x = Trial.canal("f00 t300");
        x.take(0);
        Trial.finds("weights, missing", x, () -> x.weights(0, 1), Trial.NOTHING);
        Trial.finds("kinds, missing", x, () -> x.kinds(0, 1), Trial.NOTHING);
        Trial.layAll(x, 1, 0, 9);
        Trial.finds("weights, unlike", x, () -> x.weights(0, 1), Trial.UNLIKE);
        Trial.finds("kinds, unlike", x, () -> x.kinds(0, 1), Trial.UNLIKE);
        Trial.layAll(x, 1, 4, 5);
        Trial.refused("weights taken", x, () -> x.weights(0, 1), CanalRings.STATE);
        Trial.refused("kinds taken", x, () -> x.kinds(0, 1), CanalRings.STATE);
        Trial.due("starts taken", x.starts(0, 1), 32);
    }

    private static void night() {
        CanalRings x = Trial.canal("f55 t300 t000 t700");
        long before = x.digest();
        Trial.asks("nobody moves", x, x.night(0, 2, 6, 0), 1 - 3);
        Trial.asks("between the gates", x, x.night(0, 2, 6, 1), -2);
        Trial.asks("the other way round", x, x.night(0, 6, 2, 1), 2);
        // The first one can't leave cell 0, where he wants it; the other one has the last turn.
        Trial.asks("at the end", x, x.night(1, 5, 0, 1), 4 - 1);
        Trial.asks("at the end, thrice", x, x.night(1, 5, 0, 3), 4 - 1);
        Trial.asks("the other one can't move it on", x, x.night(2, 0, 7, 2), 6 - 1);
        Trial.asks("beyond both gates", x, x.night(2, 1, 2, 1), 1);
        Trial.asks("drawn to both gates", x, x.night(2, 5, 6, 3), 1);
        Trial.due("no deed", x.digest(), before);
    }

    private static void nightRefusals() {
        CanalRings x = Trial.canal("f50 t300 t300");
        x.take(1);
        Trial.refused("taken", x, () -> x.night(1, 0, 1, 0), CanalRings.STATE);
        Trial.refused("taken, like gates", x, () -> x.night(1, 1, 1, 0), CanalRings.BAD);
        Trial.refused("like gates", x, () -> x.night(0, 7, 7, 1), CanalRings.BAD);
        Trial.refused("gate 8", x, () -> x.night(0, 8, 7, 1), CanalRings.BAD);
        Trial.refused("gate -1", x, () -> x.night(0, -1, 7, 1), CanalRings.BAD);
        Trial.refused("other 8", x, () -> x.night(0, 7, 8, 1), CanalRings.BAD);
        Trial.refused("other -1", x, () -> x.night(0, 7, -1, 1), CanalRings.BAD);
        Trial.refused("4 times", x, () -> x.night(0, 7, 6, 4), CanalRings.BAD);
        Trial.refused("-1 times", x, () -> x.night(0, 7, 6, -1), CanalRings.BAD);
        Trial.refused("thing 2", x, () -> x.night(2, 7, 6, 1), CanalRings.BAD);
        Trial.refused("thing -1", x, () -> x.night(-1, 7, 6, 1), CanalRings.BAD);
    }
}
