import java.lang.reflect.Method;
import java.util.Arrays;

/**
 * Every call with every choice of numbers at and beside the bounds that the document names, in several states: the
 * class answers as the model does, all that is told included; a refusal changes nothing; SPENT is never answered.
 */
public final class EdgeSweepTest {
    private static final int LEAST = Integer.MIN_VALUE, MOST = Integer.MAX_VALUE;
    private static final int[] ROW = {-1, 0, 1, 2, 3, 5, 6}, TEXT = {-1, 0, 1, 2, 3, 4}, THING = {-1, 0, 4, 5, 6};
    private static final int[] CELL = {-1, 0, 3, 7, 8}, PLACE = {LEAST, -1, 0, 2, 3, 39, 40, 59, 60, MOST};
    private static final int[] FEW = {-1, 0, 2, 3, 40, 41}, KEPT = {-1, 0, 1, 2, 3}, TWENTY = {-1, 0, 1, 20, 21};
    private static final int[] VALUE = {LEAST, -129, -128, 0, 127, 128, MOST}, BY = {-2, -1, 0, 1, 2};

    private record Call(String name, int[]... numbers) { }

    private static final Call[] CALLS = {
        new Call("row", ROW, PLACE), new Call("lay", ROW, PLACE, VALUE), new Call("at", ROW, PLACE),
        new Call("tear", ROW), new Call("copy", ROW, FEW, ROW, FEW, FEW), new Call("mean", ROW),
        new Call("text", TEXT, new int[] {LEAST, -1, 0, 59, 60, 61, MOST}), new Call("put", TEXT, PLACE, VALUE),
        new Call("fault", TEXT), new Call("canal", TEXT), new Call("thing", THING, new int[] {-1, 0, 1, 2, 3, 4, 5}),
        new Call("mark", THING, new int[] {-1, 0, 1, 2, 3, 4, 5, 6}), new Call("cell", CELL), new Call("year"),
        new Call("paddle", BY), new Call("move", THING, BY), new Call("take", THING),
        new Call("undo", new int[] {-1, 0, 1, 8, 9, 10, 39, 40, 41}), new Call("keep", KEPT), new Call("on", KEPT),
        new Call("lies", THING, new int[] {-1, 0, 1, 59, 60, 61}), new Call("three"),
        new Call("moves", THING, CELL, TWENTY), new Call("owned", TWENTY), new Call("thrown", THING, CELL, TWENTY),
        new Call("stand", ROW), new Call("level", new int[] {-1, 0, 1, 8, 9, 10}), new Call("home", THING),
        new Call("stops", THING), new Call("starts", THING, ROW), new Call("weights", THING, ROW),
        new Call("kinds", THING, ROW), new Call("night", THING, CELL, CELL, new int[] {-1, 0, 1, 3, 4}),
        new Call("odds", THING, CELL, new int[] {-1, 0, 1, 6, 7}, new int[] {-1, 0, 1, 11, 12, 13}),
        new Call("mid", THING, new int[] {-1, 0, 1, 6, 7}, new int[] {-1, 0, 1, 11, 12, 13}),
        new Call("lots", new int[] {-1, 0, 1, 19, 20, 21}, new int[] {LEAST, -1, 0, 1, MOST - 1, MOST}),
        new Call("count", new int[] {-1, 0, 5, 10, 11}), new Call("findings", new int[] {-1, 0, 1, 5, 6})};

    /** What is done ahead of the call: signs for TEXT 0, then calls. */
    private static final String[][] STATES = {
        {""},
        {"", "row 0 0", "row 2 3", "row 3 40", "text 1 0", "text 3 60"},
        {Trial.SIX, "canal 0"},
        {Trial.SIX, "canal 0", "row 0 2", "row 1 0", "row 2 3", "row 3 40", "lay 3 39 7", "row 5 12", "lay 5 2 20",
            "lay 5 3 7", "text 1 0", "text 3 60", "year", "move 0 1", "paddle 0", "paddle 0", "keep 0", "paddle 0",
            "take 5", "keep 2", "paddle 1", "year", "odds 0 5 2 3", "at 3 39", "at 4 0"},
        {"f00t000s700", "canal 0", "row 0 2", "lay 0 0 21", "row 1 4", "lay 1 3 8", "row 2 14", "row 3 1", "take 1",
            "keep 1", "lots 20 7", "lots 19 9"},
        {"f91 t700 d000 r390 b407 c007 s333", "canal 0", "row 0 2", "lay 0 1 7", "row 3 2", "lay 3 0 20", "lay 3 1 7",
            "lots 20 1", "lots 20 2", "keep 0"},
        {"f30r300r300d300s300s300c300", "canal 0", "row 0 0", "row 5 13", "take 0", "take 1", "take 2", "take 3",
            "take 4", "take 5", "paddle 1", "three"}};

    public static void main(String[] args) throws ReflectiveOperationException {
        for (int state = 0; state < STATES.length; state++) {
            for (Call call : CALLS) sweep(state, call, new int[call.numbers().length], 0);
        }
        Trial.end("EdgeSweepTest");
    }

    private static void sweep(int state, Call call, int[] chosen, int k) throws ReflectiveOperationException {
        if (k == chosen.length) {
            compare(state, call, chosen);
            return;
        }
        for (int v : call.numbers()[k]) {
            chosen[k] = v;
            sweep(state, call, chosen, k + 1);
        }
    }

    private static void compare(int state, Call call, int[] chosen) throws ReflectiveOperationException {
        CanalRings x = new CanalRings();
        Model y = new Model();
        begin(x, y, STATES[state]);
        long[] before = told(x);
        String said = "state " + state + ": " + call.name() + Arrays.toString(chosen);
        int got = answer(x, call.name(), chosen);
        Trial.due(said, got, answer(y, call.name(), chosen));
        Trial.due(said + " is not SPENT", got == CanalRings.SPENT ? 1 : 0, 0);
        long[] then = told(x);
        long[] want = told(y);
        for (int k = 0; k < want.length; k++) Trial.due(said + ", told " + k, then[k], want[k]);
        if (got >= 0) return;
        for (int k = 0; k < 4; k++) Trial.due(said + " changes nothing, told " + k, then[k], before[k]);
    }

    private static void begin(CanalRings x, Model y, String[] state) throws ReflectiveOperationException {
        String signs = state[0];
        x.text(0, signs.length());
        y.text(0, signs.length());
        for (int i = 0; i < signs.length(); i++) {
            x.put(0, i, signs.charAt(i));
            y.put(0, i, signs.charAt(i));
        }
        for (int k = 1; k < state.length; k++) {
            String[] words = state[k].split(" ");
            int[] numbers = new int[words.length - 1];
            for (int i = 0; i < numbers.length; i++) numbers[i] = Integer.parseInt(words[i + 1]);
            Trial.due(state[k], answer(x, words[0], numbers), answer(y, words[0], numbers));
        }
    }

    private static int answer(Object of, String name, int[] numbers) throws ReflectiveOperationException {
        Class<?>[] types = new Class<?>[numbers.length];
        Object[] values = new Object[numbers.length];
        for (int i = 0; i < numbers.length; i++) {
            types[i] = int.class;
            values[i] = numbers[i];
        }
        Method method = of.getClass().getDeclaredMethod(name, types);
        return (Integer) method.invoke(of, values);
    }

    private static long[] told(CanalRings x) {
        return new long[] {x.digest(), x.asked(), x.upper(), x.lower(), x.finding(), x.findings(1), x.findings(2),
            x.findings(3), x.findings(4), x.findings(5)};
    }

    private static long[] told(Model y) {
        return new long[] {y.digest(), y.asked(), y.upper(), y.lower(), y.finding(), y.findings(1), y.findings(2),
            y.findings(3), y.findings(4), y.findings(5)};
    }
}
