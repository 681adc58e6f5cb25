import java.util.function.Supplier;

/** Boundary cases of promises 10 and 11: the small language, where a FAULT lies, a CANAL by a TEXT. */
public final class EdgeLanguageTest {
    private static final Supplier<CanalRings> BARE = CanalRings::new;
    private static final Supplier<CanalRings> RICH = Edge::rich;
    /** A head and six THINGS, one of each letter, without a blank: 27 signs. */
    private static final String DENSE = "f56t233r061b447d775s390c112";
    private static final String LETTERS = "trsbdc";

    public static void main(String[] args) {
        faultNumbers();
        blanksAlone();
        endTooEarly();
        everySignAtEveryPlace();
        figures();
        letters();
        blanksWithinItems();
        blanksBetweenItems();
        fullText();
        sixThings();
        seventhThing();
        canalNumbers();
        canalOfOneAndSix();
        canalFigures();
        canalAnew();
        canalRefusals();
        canalStays();
        Trial.end("EdgeLanguageTest");
    }

    private static Supplier<CanalRings> written(String signs) {
        return () -> {
            CanalRings x = new CanalRings();
            Trial.due("text", x.text(3, signs.length()), signs.length());
            for (int i = 0; i < signs.length(); i++) x.put(3, i, signs.charAt(i));
            return x;
        };
    }

    /** fault() tells where, and canal() is refused if and only if there is one; neither changes anything then. */
    private static void fault(String signs, int want) {
        Edge.aside("fault of '" + signs + "'", written(signs), x -> x.fault(3), want);
        if (want == Edge.NONE) {
            int things = (signs.replace(" ", "").length() - 3) / 4;
            Trial.due("canal of '" + signs + "'", written(signs).get().canal(3), things);
        } else {
            Edge.refused("canal of '" + signs + "'", written(signs), x -> x.canal(3), Edge.STATE);
        }
    }

    private static String blanks(int n) {
        return " ".repeat(n);
    }

    /** "A FAULT of a TEXT ... BAD; NOTHING." */
    private static void faultNumbers() {
        Supplier<CanalRings> all = () -> Edge.allTexts(5);
        Edge.range("fault(t)", all, (x, t) -> x.fault(t), 0, 5, 3, 5);
        for (int t = 0; t < 4; t++) {
            int text = t;
            Edge.finds("fault(" + t + ") of none", BARE, x -> x.fault(text), Edge.NOTHING);
        }
        Edge.finds("fault of a missing one among others", RICH, x -> x.fault(2), Edge.NOTHING);
        Edge.refused("BAD ahead of NOTHING", BARE, x -> x.fault(4), Edge.BAD);
        Edge.refused("BAD ahead of NOTHING, below", BARE, x -> x.fault(-1), Edge.BAD);
    }

    /** "the TEXT's size, if ... there are blanks alone": from 0 to 60 of them. */
    private static void blanksAlone() {
        for (int n = 0; n <= 60; n++) fault(blanks(n), n);
    }

    /** "the TEXT's size, if its end comes too early": each beginning of a good text, blanks behind it or not. */
    private static void endTooEarly() {
        for (int n = 0; n < DENSE.length(); n++) {
            boolean whole = n >= 7 && (n - 3) % 4 == 0;
            fault(DENSE.substring(0, n), whole ? Edge.NONE : n);
            boolean betweenItems = n == 0 || n == 3 || whole;
            // Behind an item blanks are good, and it is the TEXT's end that is too early; within one they are not.
            fault(DENSE.substring(0, n) + "  ", whole ? Edge.NONE : betweenItems ? n + 2 : n);
        }
        fault("f00" + blanks(57), 60);
        fault(blanks(57) + "f00", 60);
        fault(blanks(59) + "f", 60);
        fault(blanks(54) + "f00t00", 60);
        fault(blanks(53) + "f00t000", Edge.NONE);
    }

    /** What may stand at a place of the dense text, blanks ahead of items aside. */
    private static boolean mayStand(int place, int sign) {
        if (place == 0) return sign == 102;
        if (place == 1 || place == 2) return sign >= 48 && sign <= 57;
        switch ((place - 3) % 4) {
            case 0: return sign == 116 || sign == 114 || sign == 115 || sign == 98 || sign == 100 || sign == 99;
            case 2: return sign >= 48 && sign <= 57;
            default: return sign >= 48 && sign <= 55;
        }
    }

    /** "a letter, a figure that is none such ... its place": each of the 256 bytes at each of the 27 places. */
    private static void everySignAtEveryPlace() {
        for (int place = 0; place < DENSE.length(); place++) {
            for (int sign = -128; sign < 128; sign++) {
                CanalRings x = written(DENSE).get();
                x.put(3, place, sign);
                boolean itemBegins = place == 0 || (place >= 3 && (place - 3) % 4 == 0);
                // A blank where an item begins only puts it off: then a figure stands where a letter is due.
                int want = mayStand(place, sign) ? Edge.NONE : sign == 32 && itemBegins ? place + 1 : place;
                Trial.due("fault with " + sign + " at " + place, x.fault(3), want);
                Trial.due("canal with " + sign + " at " + place, x.canal(3), want == Edge.NONE ? 6 : Edge.STATE);
            }
        }
    }

    /** "FLOW (0 .. 9), the LEVEL (0 .. 9)", "CELL (0 .. 7), WEIGHT (0 .. 9), the GATE (0 .. 7), one figure each". */
    private static void figures() {
        fault("f00t000", Edge.NONE);
        fault("f99t797", Edge.NONE);
        fault("f/0t000", 1);
        fault("f:0t000", 1);
        fault("f0/t000", 2);
        fault("f0:t000", 2);
        fault("f00t/00", 4);
        fault("f00t800", 4);
        fault("f00t900", 4);
        fault("f00t0/0", 5);
        fault("f00t0:0", 5);
        fault("f00t00/", 6);
        fault("f00t008", 6);
        fault("f00t009", 6);
        fault("f000t000", 3);
        fault("f00t0000", 7);
        fault("f00t000 0", 8);
    }

    /** The letters, and those beside them; great ones are none. */
    private static void letters() {
        for (char sign = 'a'; sign <= 'z'; sign++) {
            fault("f00" + sign + "000", LETTERS.indexOf(sign) >= 0 ? Edge.NONE : 3);
            fault("f00" + Character.toUpperCase(sign) + "000", 3);
            if (sign != 'f') fault(sign + "00t000", 0);
        }
        fault("F00t000", 0);
        fault("f00f00", 3);
        fault("f00t000f00", 7);
    }

    /** "none within items" */
    private static void blanksWithinItems() {
        fault("f 56t233", 1);
        fault("f5 6t233", 2);
        fault("f56t 233", 4);
        fault("f56t2 33", 5);
        fault("f56t23 3", 6);
        fault(blanks(9) + "f56" + blanks(9) + "t2 33", 23);
    }

    /** "blanks (32) ahead, between, behind as many as wanted": none, one, many; nothing else is a blank. */
    private static void blanksBetweenItems() {
        for (int n : new int[] {0, 1, 2, 40, 53}) {
            fault(blanks(n) + "f56t233", Edge.NONE);
            fault("f56" + blanks(n) + "t233", Edge.NONE);
            fault("f56t233" + blanks(n), Edge.NONE);
        }
        for (int n : new int[] {1, 20, 49}) fault("f56t233" + blanks(n) + "c112", Edge.NONE);
        for (char sign : new char[] {0, 9, 10, 13, 31, 33, 160}) {
            fault(sign + "f56t233", 0);
            fault("f56" + sign + "t233", 3);
            fault("f56t233" + sign, 7);
            fault("f56t233" + sign + "c112", 7);
        }
    }

    /** A TEXT of all 60 bytes. */
    private static void fullText() {
        fault(DENSE + blanks(33), Edge.NONE);
        fault(blanks(33) + DENSE, Edge.NONE);
        fault("f56" + blanks(33) + DENSE.substring(3), Edge.NONE);
        fault(DENSE + blanks(32) + "t", 59);
        fault(blanks(34) + DENSE.substring(0, 26), 60);
        fault("x".repeat(60), 0);
        fault(blanks(59) + "x", 59);
        fault("f".repeat(60), 1);
    }

    /** "THINGS (1 to 6; 0, 1, .. as they come)" */
    private static void sixThings() {
        fault("f56", 3);
        for (int n = 1; n <= 6; n++) fault(DENSE.substring(0, 3 + 4 * n), Edge.NONE);
    }

    /** "a seventh THING: its place": of its letter, blanks aside, whatever it would be. */
    private static void seventhThing() {
        fault(DENSE + "t", 27);
        fault(DENSE + "t000", 27);
        fault(DENSE + "t000t000", 27);
        fault(DENSE + "x", 27);
        fault(DENSE + "0", 27);
        fault(DENSE + "f00", 27);
        fault(DENSE + " t000", 28);
        fault(DENSE + blanks(29) + "t000", 56);
        // The first place counts: a fault ahead of the seventh one.
        fault(DENSE.substring(0, 26) + "8t000", 26);
    }

    /** "A CANAL by a TEXT": of each number; "BAD; NOTHING; STATE: a FAULT. (STATE behind NOTHING.)" */
    private static void canalNumbers() {
        Supplier<CanalRings> all = () -> {
            CanalRings x = new CanalRings();
            for (int t = 0; t < 4; t++) Trial.write(x, t, "f12t345" + " r210".repeat(t));
            return x;
        };
        Edge.range("canal(t)", all, (x, t) -> x.canal(t), 0, 1, 3, 4);
        Trial.due("canal(1)", all.get().canal(1), 2);
        Trial.due("canal(2)", all.get().canal(2), 3);
    }

    private static void canalOfOneAndSix() {
        CanalRings one = Trial.canal("f56t233");
        Trial.due("one THING", one.count(0), 1);
        Trial.due("thing 0 is", one.thing(0, 0), 1);
        Trial.due("thing 1 is none", one.thing(1, 0), Edge.BAD);
        CanalRings six = Trial.canal(DENSE);
        Trial.due("six THINGS", six.count(0), 6);
        Trial.due("thing 5 is", six.thing(5, 0), 1);
        Trial.due("thing 6 is none", six.thing(6, 0), Edge.BAD);
        Trial.write(six, 1, "f56t233");
        Trial.due("one in place of six", six.canal(1), 1);
        Trial.due("thing 1 is gone", six.thing(1, 0), Edge.BAD);
        Trial.due("no bits of those that went", six.cell(0) + six.cell(1) + six.cell(3) + six.cell(4) + six.cell(7), 0);
        Trial.due("thing 0 alone", six.cell(2), 1);
        Trial.due("no ring, doll", six.count(6), 0);
        Trial.due("no safe, chair", six.count(7), 0);
    }

    /** Each figure comes where it belongs, at both of its ends. */
    private static void canalFigures() {
        for (char flow : new char[] {'0', '9'}) {
            for (char level : new char[] {'0', '9'}) {
                for (String thing : new String[] {"000", "700", "090", "007", "797"}) {
                    CanalRings x = Trial.canal("f" + flow + level + "s" + thing);
                    Trial.due("flow", x.count(4), flow - '0');
                    Trial.due("level", x.count(3), level - '0');
                    for (int k = 0; k < 3; k++) {
                        Trial.asks("figure " + k + " of " + thing, x, x.thing(0, k + 1), thing.charAt(k) - '0');
                    }
                }
            }
        }
        for (int kind = 0; kind < 6; kind++) {
            CanalRings x = Trial.canal("f00" + LETTERS.charAt(kind) + "000");
            Trial.asks("kind of " + LETTERS.charAt(kind), x, x.thing(0, 0), kind);
        }
    }

    /** "anew: YEAR 0, the LEVEL as told, no DEEDS; kept CANALS go": by the same TEXT, too; all else stays. */
    private static void canalAnew() {
        CanalRings x = Edge.rich();
        int asked = x.asked();
        long upper = x.upper();
        long lower = x.lower();
        Trial.due("canal(0) once more", x.canal(0), 6);
        int[] counts = {6, 0, 0, 6, 5, 0, 2, 2, 3, 3, 0};
        for (int what = 0; what < counts.length; what++) Trial.due("count(" + what + ")", x.count(what), counts[what]);
        int[] cells = {2, 0, 4, 7, 3, 1};
        for (int i = 0; i < 6; i++) Trial.due("lies(" + i + ", 0)", x.lies(i, 0), cells[i]);
        Trial.due("asked() stays", x.asked(), asked);
        Trial.due("upper() stays", x.upper(), upper);
        Trial.due("lower() stays", x.lower(), lower);
        Trial.due("finding() stays", x.finding(), Edge.UNLIKE);
        for (int f = 1; f <= 5; f++) Trial.due("findings(" + f + ") stays", x.findings(f), 1);
        for (int k = 0; k < 3; k++) {
            Trial.due("kept " + k + " is gone", x.on(k), Edge.FINDING);
            Trial.due("NOTHING", x.finding(), Edge.NOTHING);
        }
        Trial.due("no DEED to undo", x.undo(1), Edge.BAD);
        Trial.rowIs("ROW 0 stays", x, 0, 7, -8, 9);
        CanalRings full = Edge.full("f00t000").get();
        Trial.due("canal(0) behind 40 DEEDS", full.canal(0), 1);
        Trial.due("none of them is left", full.count(2), 0);
        Trial.due("there is room again", full.year(), 1);
    }

    private static void canalRefusals() {
        Edge.finds("a missing TEXT is NOTHING", RICH, x -> x.canal(2), Edge.NOTHING);
        Edge.refused("an empty one has a FAULT", RICH, x -> x.canal(1), Edge.STATE);
        Edge.refused("60 bytes with a FAULT", RICH, x -> x.canal(3), Edge.STATE);
        Edge.refused("BAD ahead of NOTHING", BARE, x -> x.canal(4), Edge.BAD);
        Edge.refused("BAD ahead of NOTHING, below", BARE, x -> x.canal(-1), Edge.BAD);
        String[] wrong = {"f99t000t000t000t000t000t000t000", "f99t777r00", "f99", "f99t778", "x"};
        for (String signs : wrong) {
            Supplier<CanalRings> made = () -> {
                CanalRings x = Edge.canal("f34 c521 b610", y -> y.year(), y -> y.keep(1), y -> y.paddle(0)).get();
                Trial.write(x, 2, signs);
                return x;
            };
            Edge.refused("canal of '" + signs + "' over another", made, x -> x.canal(2), Edge.STATE);
        }
    }

    /** A CANAL stays as it is, whatever becomes of its TEXT. */
    private static void canalStays() {
        CanalRings x = Trial.canal("f34 c521");
        x.put(0, 1, 'x');
        Trial.due("the flow", x.count(4), 3);
        x.text(0, 0);
        Trial.due("a year", x.year(), 1);
        Trial.due("undone", x.undo(0), 1);
        Trial.due("the level at first", x.count(3), 4);
        Trial.due("the cell at first", x.lies(0, 0), 5);
    }
}
