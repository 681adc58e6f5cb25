import java.math.BigInteger;
import java.util.ArrayList;
import java.util.List;
import java.util.function.Supplier;

/** Boundary cases of promises 38 to 44: what is told. */
public final class EdgeToldTest {
    private static final Supplier<CanalRings> BARE = CanalRings::new;
    private static final Supplier<CanalRings> RICH = Edge::rich;

    public static void main(String[] args) {
        before();
        askedInts();
        askedStays();
        ratioStays();
        countNumbers();
        countEnds();
        countRowsTexts();
        countKept();
        findingOfEach();
        findingStays();
        findingsNumbers();
        findingsMany();
        digestOfNew();
        digestOfFull();
        digestOfEmpty();
        digestWrapsAround();
        digestIsAside();
        Trial.end("EdgeToldTest");
    }

    /** "0 before", "0 before", "1 before", "0 before any" */
    private static void before() {
        for (CanalRings x : new CanalRings[] {BARE.get(), Trial.canal(Trial.SIX), Edge.allRows(3), Edge.allTexts(3)}) {
            Trial.due("asked() before", x.asked(), 0);
            Trial.due("upper() before", x.upper(), 0);
            Trial.due("lower() before", x.lower(), 1);
            Trial.due("finding() before", x.finding(), 0);
            for (int f = 1; f <= 5; f++) Trial.due("findings(" + f + ") before", x.findings(f), 0);
        }
    }

    /** Each int can be told: the least, the most, those that look like refusals. */
    private static void askedInts() {
        for (int v : new int[] {Edge.LEAST, Edge.MOST, 0, -1, -2, -3, -4, -6, -9}) {
            CanalRings x = Edge.allRows(1);
            x.lay(0, 0, v);
            Trial.asks("at", x, x.at(0, 0), v);
            x.lay(1, 0, 5);
            Trial.asks("mean", x, x.mean(0), v);
            x.lay(1, 0, 5);
            Trial.asks("lay", x, x.lay(0, 0, 1), v);
        }
        CanalRings x = Trial.canal("f90t007");
        x.take(0);
        Trial.asks("thing() 1 of a TAKEN one tells NONE, and is no NONE", x, x.thing(0, 1), Edge.NONE);
        CanalRings y = Trial.canal("f90t000");
        Trial.asks("night() tells as much as BAD", y, y.night(0, 0, 1, 0), -1);
    }

    /** "that was not refused (nor NONE)": of each of the seven calls the refusals, and three()'s NONE. */
    private static void askedStays() {
        Edge.Call[] refusedByRich = {x -> x.lay(6, 0, 1), x -> x.lay(2, 0, 1), x -> x.lay(0, 3, 1), x -> x.at(6, 0),
            x -> x.at(2, 0), x -> x.at(0, 3), x -> x.mean(6), x -> x.mean(2), x -> x.mean(1), x -> x.thing(6, 0),
            x -> x.thing(0, 5), x -> x.level(10), x -> x.night(5, 0, 7, 0), x -> x.night(0, 1, 1, 0)};
        for (int k = 0; k < refusedByRich.length; k++) {
            CanalRings x = Edge.rich();
            Trial.due("refusal " + k, refusedByRich[k].of(x) < 0 ? 1 : 0, 1);
            Trial.due("asked() behind refusal " + k, x.asked(), -8);
        }
        CanalRings none = Trial.canal("f90t307");
        none.thing(0, 3);
        Trial.due("three()", none.three(), Edge.NONE);
        Trial.due("asked() behind NONE", none.asked(), 7);
        CanalRings bare = Edge.allRows(1);
        bare.lay(0, 0, 5);
        bare.lay(0, 0, 6);
        Trial.due("three() without THINGS", bare.three(), Edge.STATE);
        Trial.due("level() without THINGS", bare.level(0), Edge.STATE);
        Trial.due("asked() behind STATE", bare.asked(), 5);
    }

    /** Refusals, other calls and a CANAL anew leave upper(), lower() as they were told last. */
    private static void ratioStays() {
        Edge.Call[] others = {x -> x.odds(5, 0, 0, 0), x -> x.odds(0, 8, 0, 0), x -> x.odds(0, 0, 7, 0),
            x -> x.odds(0, 0, 0, 13), x -> x.mid(5, 0, 0), x -> x.mid(0, 7, 0), x -> x.mid(0, 0, 13), x -> x.canal(0),
            x -> x.mean(0), x -> x.undo(0), x -> x.on(0), x -> x.year(), x -> x.level(9), x -> x.night(0, 0, 7, 1)};
        for (int k = 0; k < others.length; k++) {
            CanalRings x = Edge.rich();
            others[k].of(x);
            Trial.due("upper() behind other call " + k, x.upper(), 1);
            Trial.due("lower() behind other call " + k, x.lower(), 16);
        }
        CanalRings x = Edge.rich();
        Trial.ratio("told anew", x, x.mid(0, 0, 12), 5, 1);
        Trial.ratio("and again", x, x.odds(0, 0, 0, 12), 0, 1);
    }

    private static void countNumbers() {
        Edge.range("count(what)", RICH, (x, what) -> x.count(what), 0, 6, 10, 2);
        Edge.range("count(what) at first", BARE, (x, what) -> x.count(what), 0, 0, 10, 0);
    }

    private static void counts(String why, CanalRings x, int... want) {
        for (int what = 0; what <= 10; what++) Trial.due(why + " count(" + what + ")", x.count(what), want[what]);
    }

    /** Each number as small and as great as it can be. */
    private static void countEnds() {
        counts("new", BARE.get(), 0, 0, 0, 0, 0, 0, 0, 0, 0, 0, 0);
        counts("least", Trial.canal("f00t000"), 1, 0, 0, 0, 0, 0, 0, 0, 0, 1, 0);
        counts("most water", Trial.canal("f99r000d000r000d000r000d000"), 6, 0, 0, 9, 9, 0, 6, 0, 0, 1, 0);
        CanalRings x = Trial.canal("f90s000c000s000c000s000c000");
        for (int i = 0; i < 6; i++) x.take(i);
        for (int k = 0; k < 34; k++) x.year();
        counts("all TAKEN, 40 DEEDS", x, 6, 34, 40, 0, 9, 63, 0, 6, 0, 1, 0);
        CanalRings y = Trial.canal("f00t000");
        for (int k = 0; k < 40; k++) y.year();
        counts("40 YEARS", y, 1, 40, 40, 0, 0, 0, 0, 0, 0, 1, 0);
        counts("each KIND once", Trial.canal(Trial.SIX), 6, 0, 0, 6, 5, 0, 2, 2, 0, 1, 0);
    }

    private static void countRowsTexts() {
        CanalRings x = new CanalRings();
        for (int r = 0; r < 6; r++) {
            x.row(r, 0);
            Trial.due("ROWS", x.count(8), r + 1);
            x.row(r, 40);
            Trial.due("ROWS still", x.count(8), r + 1);
        }
        for (int t = 0; t < 4; t++) {
            x.text(t, 0);
            Trial.due("TEXTS", x.count(9), t + 1);
            x.text(t, 60);
            Trial.due("TEXTS still", x.count(9), t + 1);
        }
        for (int r = 5; r >= 0; r--) {
            x.tear(r);
            Trial.due("ROWS left", x.count(8), r);
        }
        Trial.due("TEXTS can't be torn", x.count(9), 4);
    }

    private static void countKept() {
        CanalRings x = Trial.canal(Trial.SIX);
        for (int k = 0; k < 3; k++) {
            x.keep(k);
            Trial.due("kept", x.count(10), k + 1);
            x.keep(k);
            Trial.due("kept still", x.count(10), k + 1);
            x.on(k);
            Trial.due("going on leaves it kept", x.count(10), k + 1);
        }
        x.canal(0);
        Trial.due("all go", x.count(10), 0);
    }

    private static final Edge.Call[] FINDERS = {null, x -> x.at(2, 0), x -> x.at(0, 3), x -> x.mark(0, 1),
        x -> x.mean(1), x -> x.row(0, -1)};

    /** Each FINDING behind each other one. */
    private static void findingOfEach() {
        for (int first = 1; first <= 5; first++) {
            for (int then = 1; then <= 5; then++) {
                CanalRings x = Edge.rich();
                FINDERS[first].of(x);
                Trial.due("finding() " + first, x.finding(), first);
                FINDERS[then].of(x);
                Trial.due("finding() " + then + " behind " + first, x.finding(), then);
                for (int f = 1; f <= 5; f++) {
                    int want = 1 + (f == first ? 1 : 0) + (f == then ? 1 : 0);
                    Trial.due("findings(" + f + ")", x.findings(f), want);
                }
            }
        }
    }

    /** What is answered, or refused otherwise, is no FINDING. */
    private static void findingStays() {
        Edge.Call[] others = {x -> x.row(6, -1), x -> x.row(0, 41), x -> x.take(0), x -> x.lies(5, 0), x -> x.canal(1),
            x -> x.three(), x -> x.moves(0, 0, 1), x -> x.owned(20), x -> x.home(0), x -> x.year(), x -> x.at(0, 0),
            x -> x.canal(0), x -> x.undo(99), x -> x.count(11), x -> x.findings(0)};
        for (int k = 0; k < others.length; k++) {
            CanalRings x = Edge.rich();
            others[k].of(x);
            Trial.due("finding() behind other call " + k, x.finding(), Edge.UNLIKE);
            for (int f = 1; f <= 5; f++) Trial.due("findings behind other call " + k, x.findings(f), 1);
        }
    }

    /** "a FINDING (1 .. 5)" */
    private static void findingsNumbers() {
        Edge.range("findings(f)", RICH, (x, f) -> x.findings(f), 1, 1, 5, 1);
        Edge.range("findings(f) at first", BARE, (x, f) -> x.findings(f), 1, 0, 5, 0);
        Edge.refused("findings(0)", RICH, x -> x.findings(0), Edge.BAD);
    }

    /** As often as calls are promised. */
    private static void findingsMany() {
        CanalRings x = new CanalRings();
        for (int k = 0; k < 500; k++) x.at(0, 0);
        Trial.due("500 times NOTHING", x.findings(1), 500);
        for (int f = 2; f <= 5; f++) Trial.due("no other one", x.findings(f), 0);
        Trial.due("the latest", x.finding(), 1);
    }

    /** h = 31 h + v without any bound, then cut to a long. */
    private static long digest(List<Long> numbers) {
        BigInteger h = BigInteger.valueOf(17);
        for (long v : numbers) h = h.multiply(BigInteger.valueOf(31)).add(BigInteger.valueOf(v));
        return h.longValue();
    }

    private static void add(List<Long> numbers, long... more) {
        for (long v : more) numbers.add(v);
    }

    private static void digestOfNew() {
        List<Long> numbers = new ArrayList<>();
        for (int what = 0; what <= 10; what++) add(numbers, 0);
        for (int k = 0; k < 3 + 6 + 4; k++) add(numbers, -1);
        Trial.due("digest() of a new one", BARE.get().digest(), digest(numbers));
    }

    /** Six THINGS, three kept CANALS; later six ROWS of 40 and four TEXTS of 60, each place otherwise. */
    private static void digestOfFull() {
        CanalRings x = Trial.canal("f93t000r191s232b373d414c555");
        x.keep(0);
        x.year();
        x.keep(1);
        for (int k = 0; k < 39; k++) x.paddle(1);
        x.keep(2);
        List<Long> numbers = new ArrayList<>();
        add(numbers, 6, 1, 40, 9, 9, 0, 2, 2, 0, 1, 3);
        add(numbers, 0, 1, 0, 0, 1);
        add(numbers, 1, 2, 9, 1, 1);
        add(numbers, 2, 2, 3, 2, 0);
        add(numbers, 3, 4, 7, 3, 0);
        add(numbers, 4, 2, 1, 4, -2);
        add(numbers, 5, 5, 5, 5, 1);
        add(numbers, 0, 1, 40);
        add(numbers, -1, -1, -1, -1, -1, -1);
        add(numbers, 27);
        for (char sign : "f93t000r191s232b373d414c555".toCharArray()) add(numbers, sign);
        add(numbers, -1, -1, -1);
        Trial.due("digest() of a canal", x.digest(), digest(numbers));

        // Within 512 calls: each ROW is copied from the one ahead, a place further on.
        CanalRings y = Edge.allRows(40);
        List<Long> full = new ArrayList<>();
        add(full, 0, 0, 0, 0, 0, 0, 0, 0, 6, 4, 0, -1, -1, -1);
        for (int i = 0; i < 40; i++) y.lay(0, i, i * 53687091 + Edge.LEAST);
        for (int r = 1; r < 6; r++) y.copy(r - 1, 0, r, 1, 39);
        for (int r = 0; r < 6; r++) {
            add(full, 40);
            for (int i = 0; i < 40; i++) add(full, i < r ? 0 : (i - r) * 53687091 + Edge.LEAST);
        }
        for (int t = 0; t < 4; t++) {
            y.text(t, 60);
            add(full, 60);
            for (int i = 0; i < 60; i++) {
                y.put(t, i, 60 * t + i);
                add(full, (byte) (60 * t + i));
            }
        }
        Trial.due("digest() of full ROWS, TEXTS", y.digest(), digest(full));
    }

    /** Empty ROWS, TEXTS count 0, missing ones -1; a TAKEN THING's CELL -9. */
    private static void digestOfEmpty() {
        CanalRings x = Trial.canal("f90t305");
        x.take(0);
        x.keep(1);
        x.text(0, 0);
        x.text(3, 0);
        x.row(0, 0);
        x.row(5, 0);
        x.row(3, 2);
        x.tear(3);
        List<Long> numbers = new ArrayList<>();
        add(numbers, 1, 0, 1, 0, 9, 1, 0, 0, 2, 2, 1);
        add(numbers, 0, Edge.NONE, 0, 5, 0);
        add(numbers, -1, 1, -1);
        add(numbers, 0, -1, -1, -1, -1, 0);
        add(numbers, 0, -1, -1, 0);
        Trial.due("digest() of empty ones", x.digest(), digest(numbers));
    }

    /** One place alone changes it, up to the first one of a full ROW: nothing is lost but by the wrap-around. */
    private static void digestWrapsAround() {
        for (int i : new int[] {0, 39}) {
            for (int v : new int[] {1, -1, Edge.MOST, Edge.LEAST}) {
                CanalRings x = Edge.allRows(40);
                x.lay(0, i, v);
                List<Long> numbers = new ArrayList<>();
                add(numbers, 0, 0, 0, 0, 0, 0, 0, 0, 6, 0, 0, -1, -1, -1);
                for (int r = 0; r < 6; r++) {
                    add(numbers, 40);
                    for (int k = 0; k < 40; k++) add(numbers, r == 0 && k == i ? v : 0);
                }
                add(numbers, -1, -1, -1, -1);
                Trial.due("digest() with " + v + " at " + i, x.digest(), digest(numbers));
            }
        }
    }

    private static void digestIsAside() {
        Edge.aside("digest()", RICH, x -> x.digest() == x.digest() ? 1 : 0, 1);
        Edge.aside("asked(), upper(), lower(), finding()", RICH,
            x -> x.asked() + (int) x.upper() + (int) x.lower() + x.finding(), -8 + 1 + 16 + 3);
    }
}
