/** Promises 38 to 44: what is told, counted, found, and the digest. */
public final class ToldTest {
    public static void main(String[] args) {
        asked();
        ratios();
        count();
        findings();
        digest();
        constants();
        Trial.end("ToldTest");
    }

    /** Each call that tells by asked() does so; no other one, and no refusal, changes it. */
    private static void asked() {
        CanalRings x = Trial.canal("f53 t304 t605 t607 t601");
        Trial.due("0 before", x.asked(), 0);
        x.row(0, 2);
        x.lay(0, 0, 77);
        Trial.due("lay", x.asked(), 0);
        x.lay(0, 0, 78);
        Trial.due("lay again", x.asked(), 77);
        x.at(0, 0);
        Trial.due("at", x.asked(), 78);
        x.mean(0);
        Trial.due("mean", x.asked(), 39);
        x.thing(0, 3);
        Trial.due("thing", x.asked(), 4);
        x.three();
        Trial.due("three", x.asked(), 6);
        x.level(1);
        Trial.due("level", x.asked(), 0);
        x.night(0, 0, 7, 0);
        Trial.due("night", x.asked(), -1);
        quiet(x);
        Trial.due("the others tell nothing by it", x.asked(), -1);
        x.at(0, 9);
        x.at(9, 0);
        x.night(0, 1, 1, 0);
        Trial.due("nor do refusals", x.asked(), -1);
    }

    private static void quiet(CanalRings x) {
        x.copy(0, 0, 0, 1, 1);
        x.text(1, 4);
        x.put(1, 0, 5);
        x.fault(1);
        x.cell(0);
        x.mark(0, 1);
        x.keep(0);
        x.year();
        x.paddle(1);
        x.move(0, 1);
        x.lots(3, 9);
        x.undo(0);
        x.on(0);
        x.lies(0, 5);
        x.moves(0, 7, 3);
        x.owned(0);
        x.thrown(0, 7, 3);
        x.stand(1);
        x.home(0);
        x.stops(0);
        x.starts(0, 5);
        x.odds(0, 7, 3, 6);
        x.mid(0, 3, 6);
        x.count(3);
        x.findings(1);
        x.digest();
        x.tear(1);
    }

    private static void ratios() {
        CanalRings x = Trial.canal("f53 t300");
        Trial.due("upper before", x.upper(), 0);
        Trial.due("lower before", x.lower(), 1);
        Trial.ratio("odds", x, x.odds(0, 4, 1, 8), 1, 3);
        x.mid(0, 7, 8);
        x.odds(0, 8, 1, 8);
        x.year();
        Trial.due("upper stays", x.upper(), 1);
        Trial.due("lower stays", x.lower(), 3);
        Trial.ratio("mid", x, x.mid(0, 1, 9), 17, 4);
        Trial.due("canal anew", x.canal(0), 1);
        Trial.due("upper stays then, too", x.upper(), 17);
        Trial.due("lower stays then, too", x.lower(), 4);
    }

    private static void count() {
        CanalRings x = Trial.canal("f72 r100 d200 c300 s400 d500");
        x.row(0, 0);
        x.row(5, 1);
        x.row(2, 1);
        x.tear(5);
        x.text(3, 9);
        x.year();
        x.paddle(0);
        x.take(1);
        x.take(4);
        x.keep(1);
        int[] want = {5, 1, 4, 0, 7, 2 + 16, 3, 2, 2, 2, 1};
        for (int what = 0; what < want.length; what++) Trial.due("count(" + what + ")", x.count(what), want[what]);
        Trial.refused("count(-1)", x, () -> x.count(-1), CanalRings.BAD);
        Trial.refused("count(11)", x, () -> x.count(11), CanalRings.BAD);
    }

    private static void findings() {
        CanalRings x = Trial.canal("f72 r100");
        x.row(1, 0);
        int[] counts = new int[6];
        int[] order = {5, 3, 1, 4, 2, 2, 1, 5, 5, 3};
        for (int f : order) {
            if (f == 1) x.at(0, 0);
            if (f == 2) x.at(1, 0);
            if (f == 3) x.mark(0, 2);
            if (f == 4) x.mean(1);
            if (f == 5) x.row(0, -1);
            counts[f]++;
            Trial.due("finding()", x.finding(), f);
            for (int k = 1; k <= 5; k++) Trial.due("findings(" + k + ")", x.findings(k), counts[k]);
        }
        x.at(9, 9);
        x.year();
        Trial.due("the latest stays", x.finding(), 3);
        Trial.refused("findings(0)", x, () -> x.findings(0), CanalRings.BAD);
        Trial.refused("findings(6)", x, () -> x.findings(6), CanalRings.BAD);
        Trial.refused("findings(-1)", x, () -> x.findings(-1), CanalRings.BAD);
    }

    private static void digest() {
        CanalRings x = Trial.canal("f50 t213 d706");
        x.take(0);
        x.keep(1);
        x.year();
        x.paddle(1);
        Trial.layAll(x, 2, 5, -6);
        x.row(3, 0);
        x.text(2, 2);
        x.put(2, 1, 200);
        long[] numbers = {
            2, 1, 3, 3, 5, 1, 1, 0, 2, 2, 1,
            0, -9, 1, 3, 1,
            4, 7, 0, 6, -2,
            -1, 1, -1,
            -1, -1, 2, 5, -6, 0, -1, -1,
            13, 102, 53, 48, 32, 116, 50, 49, 51, 32, 100, 55, 48, 54, -1, 2, 32, -56, -1};
        long h = 17;
        for (long v : numbers) h = 31 * h + v;
        Trial.due("digest()", x.digest(), h);
        Trial.due("digest() once more", x.digest(), h);
        Trial.due("asked() is no part of it, nor does it change that", x.asked(), 0);
    }

    private static void constants() {
        Trial.due("BAD", CanalRings.BAD, -1);
        Trial.due("FULL", CanalRings.FULL, -2);
        Trial.due("FINDING", CanalRings.FINDING, -3);
        Trial.due("STATE", CanalRings.STATE, -4);
        Trial.due("SPENT", CanalRings.SPENT, -6);
        Trial.due("NONE", CanalRings.NONE, -9);
    }
}
