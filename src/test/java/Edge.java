import java.util.ArrayList;
import java.util.List;
import java.util.function.Supplier;

/**
 * What the tests of boundary cases share. Every case has objects of its own, so that none of them is used for more
 * than the 512 calls that are promised.
 */
final class Edge {
    static final int BAD = -1, FULL = -2, FINDING = -3, STATE = -4, NONE = -9;
    static final int NOTHING = 1, BEYOND = 2, UNLIKE = 3, NOUGHT = 4, SIZE = 5;
    static final int LEAST = Integer.MIN_VALUE, MOST = Integer.MAX_VALUE;

    interface Call {
        int of(CanalRings x);
    }

    interface NumberCall {
        int of(CanalRings x, int v);
    }

    private Edge() { }

    /** Numbers from least to most are taken, with these answers at both ends; what is beyond them is BAD. */
    static void range(String call, Supplier<CanalRings> made, NumberCall what,
            int least, int atLeast, int most, int atMost) {
        Trial.due(call + " of " + least, what.of(made.get(), least), atLeast);
        Trial.due(call + " of " + most, what.of(made.get(), most), atMost);
        for (int v : new int[] {least - 1, most + 1, LEAST, MOST}) {
            refused(call + " of " + v, made, x -> what.of(x, v), BAD);
        }
    }

    /** A refusal that is no finding changes nothing at all. */
    static void refused(String call, Supplier<CanalRings> made, Call what, int want) {
        changesNothing(call, made, what, want, 0);
    }

    /** A finding changes nothing but finding(), findings(). */
    static void finds(String call, Supplier<CanalRings> made, Call what, int finding) {
        changesNothing(call, made, what, FINDING, finding);
    }

    /** An answer that is aside (NONE among them) and tells nothing by asked(), upper(), lower(). */
    static void aside(String call, Supplier<CanalRings> made, Call what, int want) {
        changesNothing(call, made, what, want, 0);
    }

    /** The call comes to an object and not to its twin: all that can ever be told of both stays alike. */
    private static void changesNothing(String call, Supplier<CanalRings> made, Call what, int want, int finding) {
        CanalRings x = made.get();
        CanalRings twin = made.get();
        Trial.due(call, what.of(x), want);
        Trial.due(call + " then finding()", x.finding(), finding == 0 ? twin.finding() : finding);
        for (int f = 1; f <= 5; f++) {
            Trial.due(call + " then findings(" + f + ")", x.findings(f), twin.findings(f) + (f == finding ? 1 : 0));
        }
        List<Long> told = told(x);
        List<Long> due = told(twin);
        Trial.due(call + " then so much is told", told.size(), due.size());
        for (int k = 0; k < due.size() && k < told.size(); k++) {
            Trial.due(call + " then number " + k + " of what is told", told.get(k), due.get(k));
        }
    }

    /** What is told now, then behind each deed that is undone, then of each kept canal likewise. */
    private static List<Long> told(CanalRings x) {
        List<Long> all = new ArrayList<>(List.of((long) x.asked(), x.upper(), x.lower()));
        for (int c = 0; c < 8; c++) all.add((long) x.cell(c));
        undoOneByOne(x, x.count(2), all);
        for (int k = 0; k < 3; k++) undoOneByOne(x, x.on(k), all);
        return all;
    }

    private static void undoOneByOne(CanalRings x, int deeds, List<Long> all) {
        all.add((long) deeds);
        all.add(x.digest());
        for (int n = deeds - 1; n >= 0; n--) {
            all.add((long) x.undo(n));
            all.add(x.digest());
        }
    }

    static Supplier<CanalRings> canal(String signs) {
        return () -> Trial.canal(signs);
    }

    /** A canal to which something has been done. */
    static Supplier<CanalRings> canal(String signs, Call... done) {
        return () -> {
            CanalRings x = Trial.canal(signs);
            for (Call deed : done) deed.of(x);
            return x;
        };
    }

    /** A canal with these deeds, and as many FILLs behind them as are lacking to 40. */
    static Supplier<CanalRings> full(String signs, Call... done) {
        return () -> {
            CanalRings x = canal(signs, done).get();
            Trial.fillUpDeeds(x);
            return x;
        };
    }

    /** A canal with n deeds of the kind that changes nothing while the level is 9. */
    static Supplier<CanalRings> withDeeds(String signs, int n) {
        return () -> {
            CanalRings x = Trial.canal(signs);
            for (int k = 0; k < n; k++) Trial.due("paddle(1)", x.paddle(1) >= 0 ? 1 : 0, 1);
            return x;
        };
    }

    static CanalRings allRows(int size) {
        CanalRings x = new CanalRings();
        for (int r = 0; r < 6; r++) Trial.due("row", x.row(r, size), size);
        return x;
    }

    static CanalRings allTexts(int size) {
        CanalRings x = new CanalRings();
        for (int t = 0; t < 4; t++) Trial.due("text", x.text(t, size), size);
        return x;
    }

    /**
     * An object of which everything is told otherwise than at first: ROWS 0 (3 ints), 1 (none), 3 (40), TEXTS 0, 1
     * (none), 3 (60), all six KINDS, level 3, year 2, thing 5 TAKEN, 9 DEEDS, CANALS kept in 0 (4) and 2 (7 DEEDS),
     * each FINDING found.
     */
    static CanalRings rich() {
        CanalRings x = Trial.canal(Trial.SIX);
        Trial.layAll(x, 0, 7, -8, 9);
        x.row(1, 0);
        x.row(3, 40);
        for (int i = 0; i < 40; i += 13) x.lay(3, i, i - 20);
        x.text(1, 0);
        x.text(3, 60);
        x.put(3, 59, 200);
        x.year();
        x.move(0, 1);
        x.paddle(0);
        x.paddle(0);
        x.keep(0);
        x.move(3, -1);
        x.paddle(0);
        x.take(5);
        x.keep(2);
        x.paddle(1);
        x.year();
        x.at(2, 0);
        x.at(0, 3);
        x.mean(1);
        x.row(0, -1);
        x.mark(0, 1);
        x.odds(0, 5, 2, 3);
        x.at(0, 1);
        return x;
    }
}
