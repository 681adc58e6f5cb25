/** Promises 27 to 30: who stands by which, the paddles, ways home. */
public final class BanksTest {
    public static void main(String[] args) {
        stand();
        standRefusals();
        level();
        levelRefusals();
        home();
        stops();
        homeRefusals();
        Trial.end("BanksTest");
    }

    private static void stand() {
        CanalRings x = Trial.canal("f50 t007 t707 t300");
        Trial.due("least sum", x.stand(4), 0 + 0 + 4);
        Trial.rowIs("the first order", x, 4, 2, 0, 1);
        x.take(1);
        Trial.due("without the taken one", x.stand(4), 0 + 4);
        Trial.rowIs("two stand", x, 4, 2, 0);
        CanalRings like = Trial.canal("f50 t003 t703 t303 t003 t703 t303");
        Trial.due("all gates alike", like.stand(0), 3 + 4 + 0 + 3 + 4 + 0);
        Trial.rowIs("the first of all orders", like, 0, 0, 1, 2, 3, 4, 5);
        CanalRings crossed = Trial.canal("f50 t001 t300 t502");
        Trial.due("several orders are as good", crossed.stand(0), 0 + 2 + 3);
        Trial.rowIs("the first of these", crossed, 0, 1, 0, 2);
        Trial.layAll(crossed, 5, 9, 9, 9, 9, 9, 9, 9);
        for (int i = 0; i < 3; i++) crossed.take(i);
        Trial.due("all are taken", crossed.stand(5), 0);
        Trial.rowIs("nobody stands", crossed, 5);
        Trial.due("the row is there", crossed.count(8), 2);
    }

    private static void standRefusals() {
        CanalRings none = new CanalRings();
        none.row(1, 2);
        Trial.refused("no things", none, () -> none.stand(1), CanalRings.STATE);
        Trial.refused("no things, row 6", none, () -> none.stand(6), CanalRings.BAD);
        CanalRings x = Trial.canal(Trial.SIX);
        Trial.refused("row 6", x, () -> x.stand(6), CanalRings.BAD);
        Trial.refused("row -1", x, () -> x.stand(-1), CanalRings.BAD);
    }

    private static void turns(int from, int to, int fewest, int bits) {
        CanalRings x = Trial.canal("f5" + from + "t000");
        long before = x.digest();
        Trial.due("level " + from + " to " + to, x.level(to), fewest);
        Trial.due("turns " + from + " to " + to, x.asked(), bits);
        Trial.due("no deed", x.digest(), before);
        for (int k = 0; k < fewest; k++) x.paddle(bits >> k & 1);
        Trial.due("the turns lead there", x.count(3), to);
    }

    private static void level() {
        for (int v = 0; v < 10; v++) turns(v, v, 0, 0);
        turns(0, 3, 1, 0b1);
        turns(0, 9, 3, 0b111);
        turns(0, 1, 2, 0b01);
        // FILL, FILL, DRAW, DRAW leads there, too, but its first DRAW comes later.
        turns(0, 2, 4, 0b0101);
        turns(9, 0, 5, 0);
        turns(9, 1, 4, 0);
        turns(9, 8, 3, 0b100);
        turns(2, 1, 3, 0b010);
        turns(1, 9, 3, 0b111);
        turns(6, 1, 5, 0b01000);
        turns(3, 4, 2, 0b10);
    }

    private static void levelRefusals() {
        CanalRings none = new CanalRings();
        Trial.refused("no things", none, () -> none.level(0), CanalRings.STATE);
        Trial.refused("no things, 10", none, () -> none.level(10), CanalRings.BAD);
        CanalRings x = Trial.canal(Trial.SIX);
        Trial.refused("10", x, () -> x.level(10), CanalRings.BAD);
        Trial.refused("-1", x, () -> x.level(-1), CanalRings.BAD);
    }

    private static void home(String signs, int i, int want) {
        Trial.due("home(" + i + ") of " + signs, Trial.canal(signs).home(i), want);
    }

    private static void home() {
        home("f00t305", 0, 2);
        home("f00t503", 0, 2);
        home("f00t303", 0, 0);
        home("f00t700t103", 1, 5);
        // Across at 7 one would meet the first one; the way by 0 is 6, across, 6.
        home("f00t700t606", 1, 13);
        home("f00t600t606", 1, CanalRings.NONE);
        home("f00t700t606", 0, 7);
        home("f00t500t606", 1, 3);
        home("f00t500t005", 1, CanalRings.NONE);
        home("f00t500t000", 1, 1);
        home("f00t500t700", 1, 8);
        home("f00t500t707", 1, 1);
        // Bank 0 is barred ahead by the third one, the way round by the second one on the other bank.
        home("f00t206r400b400", 0, CanalRings.NONE);
        home("f00t206b000t400", 0, CanalRings.NONE);
        // Things with an even number are on bank 0, the others on bank 1.
        for (int i = 0; i < 6; i++) home("f00t000t000t000t000t000t000", i, i % 2 == 0 ? 0 : CanalRings.NONE);
        for (int i = 0; i < 6; i++) home("f00t706t706t706t706t706t706", i, i % 2 == 0 ? 1 : 7 + 1 + 6);
        home("f00t000t000t000t701t700t700", 3, CanalRings.NONE);
        home("f00t304t304t304t706t304t304", 3, 2);
        // Another one at one's own place counts for nothing.
        home("f00t303t000t300", 0, 0);
        home("f00t305t000t300", 0, 2);
        // Another one at the gate bars it.
        home("f00t305t000t500", 0, CanalRings.NONE);
        // The other bank's people bar only their bank.
        home("f00t305t400", 0, 2);
        CanalRings x = Trial.canal("f00t205t000t400");
        Trial.due("barred", x.home(0), CanalRings.NONE);
        x.take(1);
        Trial.due("round the other side", x.home(0), 2 + 1 + 7 + 1 + 2);
        x.take(2);
        Trial.due("taken ones bar nobody", x.home(0), 3);
    }

    private static void stops(String signs, int i, int want) {
        Trial.due("stops(" + i + ") of " + signs, Trial.canal(signs).stops(i), want);
    }

    private static void stops() {
        stops("f00t305", 0, 0);
        stops("f00t205t000t400", 0, 6);
        stops("f00t205t000t400t100", 0, 4);
        stops("f00t205t000t400t000", 0, 4);
        stops("f00t205t000t400t000t400", 0, 0);
        stops("f00t305t000t500", 0, 4);
        stops("f00t305t000t500t400t500", 0, 0);
        stops("f00t305t400t300", 0, 0);
        stops("f00t500t005", 1, 1);
        // The fourth one stands at the second one's own place; each way round is barred by one alone.
        stops("f00t500t002t004t000", 1, 5);
        // Bank 0 is barred twice, the other way round once.
        stops("f00t500t006t000t600", 1, 8);
        CanalRings x = Trial.canal("f00t205t000t400t100");
        x.take(3);
        Trial.due("one is taken", x.stops(0), 6);
    }

    private static void homeRefusals() {
        CanalRings x = Trial.canal("f00t305t000");
        x.take(0);
        Trial.refused("home taken", x, () -> x.home(0), CanalRings.STATE);
        Trial.refused("stops taken", x, () -> x.stops(0), CanalRings.STATE);
        Trial.refused("home(2)", x, () -> x.home(2), CanalRings.BAD);
        Trial.refused("home(-1)", x, () -> x.home(-1), CanalRings.BAD);
        Trial.refused("stops(2)", x, () -> x.stops(2), CanalRings.BAD);
        Trial.refused("stops(-1)", x, () -> x.stops(-1), CanalRings.BAD);
    }
}
