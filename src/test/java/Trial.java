import java.util.function.IntSupplier;

/** What the tests share: an object under trial, answers that are due, and refusals that change nothing. */
final class Trial {
    static final int NOTHING = 1, BEYOND = 2, UNLIKE = 3, NOUGHT = 4, SIZE = 5;
    /** Flow 5, level 6; one thing of each kind. */
    static final String SIX = "f56t233 r061b447d775s390c112";

    private static int wrong = 0;
    private static int seen = 0;

    private Trial() { }

    static void due(String call, long got, long want) {
        seen++;
        if (got == want) return;
        wrong++;
        System.out.println(call + " answered " + got + ", due is " + want);
    }

    /** A call that answers 1 and tells its answer by asked(). */
    static void asks(String call, CanalRings x, int got, int want) {
        due(call, got, 1);
        due(call + " asked()", x.asked(), want);
    }

    static void ratio(String call, CanalRings x, int got, long upper, long lower) {
        due(call, got, 1);
        due(call + " upper()", x.upper(), upper);
        due(call + " lower()", x.lower(), lower);
    }

    /** A refusal that is no finding: nothing at all changes. */
    static void refused(String call, CanalRings x, IntSupplier what, int want) {
        refusal(call, x, what, want, 0);
    }

    static void finds(String call, CanalRings x, IntSupplier what, int finding) {
        refusal(call, x, what, CanalRings.FINDING, finding);
    }

    private static void refusal(String call, CanalRings x, IntSupplier what, int want, int finding) {
        long digest = x.digest();
        int asked = x.asked();
        long upper = x.upper();
        long lower = x.lower();
        int latest = x.finding();
        int[] counts = new int[6];
        for (int f = 1; f <= 5; f++) counts[f] = x.findings(f);
        due(call, what.getAsInt(), want);
        due(call + " then digest()", x.digest(), digest);
        due(call + " then asked()", x.asked(), asked);
        due(call + " then upper()", x.upper(), upper);
        due(call + " then lower()", x.lower(), lower);
        due(call + " then finding()", x.finding(), finding == 0 ? latest : finding);
        for (int f = 1; f <= 5; f++) {
            due(call + " then findings(" + f + ")", x.findings(f), counts[f] + (f == finding ? 1 : 0));
        }
    }

    static void write(CanalRings x, int t, String signs) {
        due("text", x.text(t, signs.length()), signs.length());
        for (int i = 0; i < signs.length(); i++) {
            if (signs.charAt(i) != ' ') due("put", x.put(t, i, signs.charAt(i)), 1032);
        }
    }

    static CanalRings canal(String signs) {
        CanalRings x = new CanalRings();
        write(x, 0, signs);
        due("canal of '" + signs + "'", x.canal(0), (signs.replace(" ", "").length() - 3) / 4);
        return x;
    }

    static void layAll(CanalRings x, int r, int... numbers) {
        due("row", x.row(r, numbers.length), numbers.length);
        for (int i = 0; i < numbers.length; i++) due("lay", x.lay(r, i, numbers[i]), 1);
    }

    static void rowIs(String call, CanalRings x, int r, int... numbers) {
        for (int i = 0; i < numbers.length; i++) asks(call + " place " + i, x, x.at(r, i), numbers[i]);
        due(call + " has no more places", x.at(r, numbers.length), CanalRings.FINDING);
        due(call + " ends there", x.finding(), BEYOND);
    }

    /** 40 deeds that leave the level at 9 and the year as it was. */
    static void fillUpDeeds(CanalRings x) {
        while (x.count(2) < 40) due("paddle(1) within 40", x.paddle(1) >= 0 ? 1 : 0, 1);
    }

    static void end(String test) {
        System.out.println(test + ": " + seen + " looked at, " + wrong + " wrong");
        if (wrong != 0) System.exit(1);
    }
}
