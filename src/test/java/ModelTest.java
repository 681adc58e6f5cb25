import java.util.Random;

/** Runs of up to 512 calls by lots of a fixed seed: the class and the model answer alike, all that is told included. */
public final class ModelTest {
    private static final String[] CALLS = {"row", "lay", "at", "tear", "copy", "mean", "text", "put", "fault", "canal",
        "thing", "mark", "cell", "year", "paddle", "move", "take", "undo", "keep", "on", "lies", "three", "moves",
        "owned", "thrown", "stand", "level", "home", "stops", "starts", "weights", "kinds", "night", "odds", "mid",
        "lots", "count", "findings"};
    private static final int[] EDGES = {-1, Integer.MIN_VALUE, Integer.MAX_VALUE, -9, 41, 61, 13, 21, 255, 40, 20, 8};

    private final Random random;
    private final CanalRings x = new CanalRings();
    private final Model y = new Model();
    private final StringBuilder story = new StringBuilder();
    /** Calls of the class so far, those that look at it included. */
    private int used = 0;
    private int compared = 0;

    private ModelTest(long seed) {
        random = new Random(seed);
    }

    public static void main(String[] args) {
        int runs = args.length > 0 ? Integer.parseInt(args[0]) : 8000;
        for (int seed = 0; seed < runs; seed++) new ModelTest(seed).run(seed);
        Trial.end("ModelTest");
    }

    private void run(int seed) {
        // Room for a canal, pairs and one more call, each looked at.
        for (int call = 0; used < 512 - 130; call++) {
            if (random.nextInt(60) == 0 || call == 3) writeCanal();
            if (random.nextInt(12) == 0) writePairs();
            if (!same(CALLS[random.nextInt(CALLS.length)])) {
                Trial.due("run " + seed + story, 0, 1);
                return;
            }
        }
    }

    private int below(int n) {
        return random.nextInt(25) == 0 ? EDGES[random.nextInt(EDGES.length)] : random.nextInt(n);
    }

    /** Texts that are mostly good, sometimes with one sign changed, cut, or more things than may be. */
    private void writeCanal() {
        StringBuilder s = new StringBuilder();
        blanks(s);
        s.append('f').append(random.nextInt(10)).append(random.nextInt(3) == 0 ? 0 : random.nextInt(10));
        int things = random.nextInt(30) == 0 ? 7 : random.nextInt(30) == 0 ? 0 : 1 + random.nextInt(6);
        int around = random.nextInt(3) == 0 ? 3 : 8;
        for (int i = 0; i < things; i++) {
            blanks(s);
            s.append("trsbdc".charAt(random.nextInt(6))).append(random.nextInt(around));
            s.append(random.nextInt(10)).append(random.nextInt(8));
        }
        blanks(s);
        if (random.nextInt(6) == 0) s.setCharAt(random.nextInt(s.length()), (char) (random.nextInt(128)));
        if (random.nextInt(10) == 0) s.setLength(random.nextInt(s.length()));
        if (s.length() > 60) s.setLength(60);
        int t = random.nextInt(4);
        x.text(t, s.length());
        y.text(t, s.length());
        for (int i = 0; i < s.length(); i++) Trial.due("put", x.put(t, i, s.charAt(i)), y.put(t, i, s.charAt(i)));
        used += 1 + s.length();
        story.append(" text ").append(t).append(" '").append(s).append("'");
        same("fault", t, 0, 0, 0, 0);
        if (random.nextInt(4) != 0) same("canal", t, 0, 0, 0, 0);
    }

    private void blanks(StringBuilder s) {
        int many = random.nextInt(3) == 0 ? random.nextInt(4) : 0;
        for (int k = 0; k < many; k++) s.append(' ');
    }

    /** Pairs that some thing keeps, for the most part. */
    private void writePairs() {
        int r = random.nextInt(6);
        int pairs = random.nextInt(8);
        x.row(r, 2 * pairs);
        y.row(r, 2 * pairs);
        used++;
        int i = random.nextInt(6);
        for (int k = 0; k < pairs; k++) {
            int years = random.nextInt(random.nextBoolean() ? 4 : 21);
            int cell = y.lies(i, years);
            if (cell < 0 || random.nextInt(8) == 0) cell = below(8);
            same("lay", r, 2 * k, years, 0, 0);
            same("lay", r, 2 * k + 1, cell, 0, 0);
        }
    }

    private boolean same(String call) {
        int thing = below(6);
        switch (call) {
            case "row": return same(call, below(6), below(14), 0, 0, 0);
            case "lay": return same(call, below(6), below(13), random.nextBoolean() ? below(21) : random.nextInt(), 0, 0);
            case "at": return same(call, below(6), below(13), 0, 0, 0);
            case "copy": return same(call, below(6), below(13), below(6), below(13), below(7));
            case "text": return same(call, random.nextInt(9) == 0 ? below(4) : -1, below(60), 0, 0, 0);
            case "put": return same(call, below(4), below(60), random.nextInt(600) - 300, 0, 0);
            case "fault": case "canal": return same(call, below(4), 0, 0, 0, 0);
            case "thing": return same(call, thing, below(5), 0, 0, 0);
            case "mark": return same(call, thing, below(6), 0, 0, 0);
            case "paddle": return same(call, random.nextInt(3) == 0 ? below(2) : 0, 0, 0, 0, 0);
            case "move": return same(call, thing, random.nextInt(9) == 0 ? below(3) : 2 * random.nextInt(2) - 1, 0, 0, 0);
            case "take": case "home": case "stops": return same(call, thing, 0, 0, 0, 0);
            case "undo": return same(call, random.nextInt(3) == 0 ? below(41) : y.count(2) - random.nextInt(4), 0, 0, 0, 0);
            case "keep": case "on": return same(call, below(3), 0, 0, 0, 0);
            case "lies": return same(call, thing, below(61), 0, 0, 0);
            case "moves": case "thrown": return same(call, thing, below(8), below(random.nextBoolean() ? 5 : 21), 0, 0);
            case "owned": return same(call, below(random.nextBoolean() ? 4 : 21), 0, 0, 0, 0);
            case "level": return same(call, below(10), 0, 0, 0, 0);
            case "starts": case "weights": case "kinds": return same(call, thing, below(6), 0, 0, 0);
            case "night": return same(call, thing, below(8), below(8), below(4), 0);
            case "odds": return same(call, thing, below(8), below(7), below(13), 0);
            case "mid": return same(call, thing, below(7), below(13), 0, 0);
            case "lots": return same(call, below(12), random.nextInt(9) == 0 ? below(2) : random.nextInt(), 0, 0, 0);
            case "count": return same(call, below(11), 0, 0, 0, 0);
            default: return same(call, below(6), 0, 0, 0, 0);
        }
    }

    private boolean same(String call, int a, int b, int c, int d, int e) {
        story.append(' ').append(call).append('(').append(a).append(',').append(b).append(',').append(c).append(',')
            .append(d).append(',').append(e).append(')');
        long got = answer(call, a, b, c, d, e);
        long want = modelAnswer(call, a, b, c, d, e);
        used += 3;
        boolean alike = got == want && x.asked() == y.asked() && x.digest() == y.digest() && sameTold();
        Trial.due(call, alike ? got : got + 1, got);
        return alike;
    }

    /** What stays until another call tells it is looked at now and then alone, so that a run has more calls. */
    private boolean sameTold() {
        compared++;
        if (compared % 4 != 0) return true;
        used += 4;
        int f = y.finding();
        return x.upper() == y.upper() && x.lower() == y.lower() && x.finding() == f && x.findings(f) == y.findings(f);
    }

    private long answer(String call, int a, int b, int c, int d, int e) {
        switch (call) {
            case "row": return x.row(a, b);
            case "lay": return x.lay(a, b, c);
            case "at": return x.at(a, b);
            case "tear": return x.tear(a);
            case "copy": return x.copy(a, b, c, d, e);
            case "mean": return x.mean(a);
            case "text": return x.text(a, b);
            case "put": return x.put(a, b, c);
            case "fault": return x.fault(a);
            case "canal": return x.canal(a);
            case "thing": return x.thing(a, b);
            case "mark": return x.mark(a, b);
            case "cell": return x.cell(a);
            case "year": return x.year();
            case "paddle": return x.paddle(a);
            case "move": return x.move(a, b);
            case "take": return x.take(a);
            case "undo": return x.undo(a);
            case "keep": return x.keep(a);
            case "on": return x.on(a);
            case "lies": return x.lies(a, b);
            case "three": return x.three();
            case "moves": return x.moves(a, b, c);
            case "owned": return x.owned(a);
            case "thrown": return x.thrown(a, b, c);
            case "stand": return x.stand(a);
            case "level": return x.level(a);
            case "home": return x.home(a);
            case "stops": return x.stops(a);
            case "starts": return x.starts(a, b);
            case "weights": return x.weights(a, b);
            case "kinds": return x.kinds(a, b);
            case "night": return x.night(a, b, c, d);
            case "odds": return x.odds(a, b, c, d);
            case "mid": return x.mid(a, b, c);
            case "lots": return x.lots(a, b);
            case "count": return x.count(a);
            case "findings": return x.findings(a);
            default: throw new IllegalStateException(call);
        }
    }

    private long modelAnswer(String call, int a, int b, int c, int d, int e) {
        switch (call) {
            case "row": return y.row(a, b);
            case "lay": return y.lay(a, b, c);
            case "at": return y.at(a, b);
            case "tear": return y.tear(a);
            case "copy": return y.copy(a, b, c, d, e);
            case "mean": return y.mean(a);
            case "text": return y.text(a, b);
            case "put": return y.put(a, b, c);
            case "fault": return y.fault(a);
            case "canal": return y.canal(a);
            case "thing": return y.thing(a, b);
            case "mark": return y.mark(a, b);
            case "cell": return y.cell(a);
            case "year": return y.year();
            case "paddle": return y.paddle(a);
            case "move": return y.move(a, b);
            case "take": return y.take(a);
            case "undo": return y.undo(a);
            case "keep": return y.keep(a);
            case "on": return y.on(a);
            case "lies": return y.lies(a, b);
            case "three": return y.three();
            case "moves": return y.moves(a, b, c);
            case "owned": return y.owned(a);
            case "thrown": return y.thrown(a, b, c);
            case "stand": return y.stand(a);
            case "level": return y.level(a);
            case "home": return y.home(a);
            case "stops": return y.stops(a);
            case "starts": return y.starts(a, b);
            case "weights": return y.weights(a, b);
            case "kinds": return y.kinds(a, b);
            case "night": return y.night(a, b, c, d);
            case "odds": return y.odds(a, b, c, d);
            case "mid": return y.mid(a, b, c);
            case "lots": return y.lots(a, b);
            case "count": return y.count(a);
            case "findings": return y.findings(a);
            default: throw new IllegalStateException(call);
        }
    }
}
