/** Promises 1 to 9: a new object, rows, texts. */
public final class RowsTextsTest {
    public static void main(String[] args) {
        newObject();
        row();
        layAndAt();
        tear();
        copy();
        mean();
        text();
        put();
        Trial.end("RowsTextsTest");
    }

    private static void newObject() {
        CanalRings x = new CanalRings();
        for (int what = 0; what <= 10; what++) Trial.due("new count(" + what + ")", x.count(what), 0);
        Trial.due("new asked()", x.asked(), 0);
        Trial.due("new upper()", x.upper(), 0);
        Trial.due("new lower()", x.lower(), 1);
        Trial.due("new finding()", x.finding(), 0);
        for (int f = 1; f <= 5; f++) Trial.due("new findings", x.findings(f), 0);
        long h = 17;
        for (int k = 0; k < 11; k++) h = 31 * h;
        for (int k = 0; k < 3 + 6 + 4; k++) h = 31 * h - 1;
        Trial.due("new digest()", x.digest(), h);
        for (int c = 0; c < 8; c++) Trial.due("new cell", x.cell(c), 0);
    }

    private static void row() {
        CanalRings x = new CanalRings();
        for (int r = 0; r < 6; r++) Trial.due("row", x.row(r, 0), 0);
        Trial.due("count(8)", x.count(8), 6);
        Trial.layAll(x, 5, 1, 2, 3);
        Trial.due("row(5, 40)", x.row(5, 40), 40);
        for (int i = 0; i < 40; i++) Trial.asks("row anew", x, x.at(5, i), 0);
        Trial.refused("row(-1, 0)", x, () -> x.row(-1, 0), CanalRings.BAD);
        Trial.refused("row(6, 0)", x, () -> x.row(6, 0), CanalRings.BAD);
        Trial.refused("row(0, 41)", x, () -> x.row(0, 41), CanalRings.BAD);
        Trial.refused("row(0, most)", x, () -> x.row(0, Integer.MAX_VALUE), CanalRings.BAD);
        Trial.refused("row(6, -1)", x, () -> x.row(6, -1), CanalRings.BAD);
        Trial.finds("row(0, -1)", x, () -> x.row(0, -1), Trial.SIZE);
        Trial.finds("row(0, least)", x, () -> x.row(0, Integer.MIN_VALUE), Trial.SIZE);
    }

    private static void layAndAt() {
        CanalRings x = new CanalRings();
        Trial.finds("lay in a missing row", x, () -> x.lay(2, 0, 7), Trial.NOTHING);
        Trial.finds("at of a missing row", x, () -> x.at(2, 0), Trial.NOTHING);
        Trial.finds("lay beyond a missing row", x, () -> x.lay(2, -1, 7), Trial.NOTHING);
        x.row(2, 3);
        Trial.asks("lay first", x, x.lay(2, 2, -7), 0);
        Trial.asks("lay again", x, x.lay(2, 2, Integer.MIN_VALUE), -7);
        Trial.asks("at", x, x.at(2, 2), Integer.MIN_VALUE);
        Trial.asks("at another", x, x.at(2, 1), 0);
        Trial.finds("lay(2, 3)", x, () -> x.lay(2, 3, 1), Trial.BEYOND);
        Trial.finds("lay(2, -1)", x, () -> x.lay(2, -1, 1), Trial.BEYOND);
        Trial.finds("at(2, 3)", x, () -> x.at(2, 3), Trial.BEYOND);
        Trial.finds("at(2, -1)", x, () -> x.at(2, -1), Trial.BEYOND);
        Trial.finds("at(2, least)", x, () -> x.at(2, Integer.MIN_VALUE), Trial.BEYOND);
        Trial.refused("lay(6)", x, () -> x.lay(6, 0, 1), CanalRings.BAD);
        Trial.refused("lay(-1)", x, () -> x.lay(-1, 99, 1), CanalRings.BAD);
        Trial.refused("at(6)", x, () -> x.at(6, 0), CanalRings.BAD);
        Trial.refused("at(-1)", x, () -> x.at(-1, 0), CanalRings.BAD);
    }

    private static void tear() {
        CanalRings x = new CanalRings();
        Trial.finds("tear a missing row", x, () -> x.tear(0), Trial.NOTHING);
        Trial.layAll(x, 0, 4, 5);
        Trial.due("tear(0)", x.tear(0), 1);
        Trial.due("count(8) then", x.count(8), 0);
        Trial.finds("tear twice", x, () -> x.tear(0), Trial.NOTHING);
        Trial.finds("at of a torn row", x, () -> x.at(0, 0), Trial.NOTHING);
        Trial.due("row after tear", x.row(0, 2), 2);
        Trial.asks("torn ints are gone", x, x.at(0, 1), 0);
        Trial.refused("tear(6)", x, () -> x.tear(6), CanalRings.BAD);
        Trial.refused("tear(-1)", x, () -> x.tear(-1), CanalRings.BAD);
    }

    private static void copy() {
        CanalRings x = new CanalRings();
        Trial.layAll(x, 0, 1, 2, 3, 4, 5);
        Trial.layAll(x, 1, 9, 9, 9);
        Trial.due("copy to another", x.copy(0, 1, 1, 0, 2), 1);
        Trial.rowIs("copied", x, 1, 2, 3, 9);
        Trial.due("copy onto itself, on", x.copy(0, 0, 0, 1, 4), 1);
        Trial.rowIs("moved on", x, 0, 1, 1, 2, 3, 4);
        Trial.due("copy onto itself, back", x.copy(0, 2, 0, 1, 3), 1);
        Trial.rowIs("moved back", x, 0, 1, 2, 3, 4, 4);
        Trial.due("copy nothing at the ends", x.copy(0, 5, 1, 3, 0), 1);
        Trial.due("copy a whole row", x.copy(1, 0, 0, 2, 3), 1);
        Trial.rowIs("whole row", x, 0, 1, 2, 2, 3, 9);
        Trial.finds("one too many there", x, () -> x.copy(0, 0, 1, 0, 4), Trial.BEYOND);
        Trial.finds("one too many here", x, () -> x.copy(1, 0, 0, 0, 4), Trial.BEYOND);
        Trial.finds("from below 0", x, () -> x.copy(0, -1, 1, 0, 1), Trial.BEYOND);
        Trial.finds("to below 0", x, () -> x.copy(0, 0, 1, -1, 1), Trial.BEYOND);
        Trial.finds("from behind the end", x, () -> x.copy(0, 6, 1, 0, 0), Trial.BEYOND);
        Trial.finds("wrapping from", x, () -> x.copy(0, Integer.MAX_VALUE, 1, 0, 2), Trial.BEYOND);
        Trial.finds("wrapping to", x, () -> x.copy(0, 0, 1, Integer.MAX_VALUE, 2), Trial.BEYOND);
        Trial.finds("most n", x, () -> x.copy(0, 1, 1, 1, Integer.MAX_VALUE), Trial.BEYOND);
        Trial.finds("least from", x, () -> x.copy(0, Integer.MIN_VALUE, 1, 0, 1), Trial.BEYOND);
        Trial.finds("n below 0", x, () -> x.copy(0, 0, 1, 0, -1), Trial.SIZE);
        Trial.finds("n below 0 ahead of missing", x, () -> x.copy(0, 0, 2, 0, -1), Trial.SIZE);
        Trial.finds("missing there", x, () -> x.copy(0, 99, 2, 0, 1), Trial.NOTHING);
        Trial.finds("missing here", x, () -> x.copy(2, 0, 0, 99, 1), Trial.NOTHING);
        Trial.refused("no such row here", x, () -> x.copy(6, 0, 0, 0, -1), CanalRings.BAD);
        Trial.refused("no such row there", x, () -> x.copy(0, 0, -1, 0, -1), CanalRings.BAD);
    }

    private static void mean() {
        CanalRings x = new CanalRings();
        Trial.finds("mean of a missing row", x, () -> x.mean(3), Trial.NOTHING);
        x.row(3, 0);
        Trial.finds("mean of none", x, () -> x.mean(3), Trial.NOUGHT);
        Trial.layAll(x, 3, 1, 2, 2);
        Trial.asks("mean cut", x, x.mean(3), 1);
        Trial.layAll(x, 3, -1, -2, -2);
        Trial.asks("mean below 0 cut", x, x.mean(3), -1);
        Trial.layAll(x, 3, Integer.MAX_VALUE, Integer.MAX_VALUE, Integer.MAX_VALUE);
        Trial.asks("mean of the most", x, x.mean(3), Integer.MAX_VALUE);
        Trial.layAll(x, 3, Integer.MIN_VALUE, Integer.MIN_VALUE);
        Trial.asks("mean of the least", x, x.mean(3), Integer.MIN_VALUE);
        Trial.refused("mean(6)", x, () -> x.mean(6), CanalRings.BAD);
        Trial.refused("mean(-1)", x, () -> x.mean(-1), CanalRings.BAD);
    }

    private static void text() {
        CanalRings x = new CanalRings();
        for (int t = 0; t < 4; t++) Trial.due("text", x.text(t, 60), 60);
        Trial.due("count(9)", x.count(9), 4);
        x.put(3, 59, 7);
        Trial.due("text anew", x.text(3, 60), 60);
        Trial.due("blank again", x.put(3, 59, 1), 1032);
        Trial.due("text(3, 0)", x.text(3, 0), 0);
        Trial.refused("text(-1, 0)", x, () -> x.text(-1, 0), CanalRings.BAD);
        Trial.refused("text(4, 0)", x, () -> x.text(4, 0), CanalRings.BAD);
        Trial.refused("text(4, -1)", x, () -> x.text(4, -1), CanalRings.BAD);
        Trial.refused("text(0, 61)", x, () -> x.text(0, 61), CanalRings.BAD);
        Trial.finds("text(0, -1)", x, () -> x.text(0, -1), Trial.SIZE);
    }

    private static void put() {
        CanalRings x = new CanalRings();
        Trial.finds("put in a missing text", x, () -> x.put(1, -1, 5), Trial.NOTHING);
        x.text(1, 2);
        Trial.due("put", x.put(1, 1, 200), 1032);
        Trial.due("a byte has a sign", x.put(1, 1, 256 + 65), 944);
        Trial.due("cut", x.put(1, 1, -129), 1065);
        Trial.due("cut below", x.put(1, 1, 128), 1127);
        Trial.due("least byte", x.put(1, 1, 0), 872);
        Trial.due("put told nothing", x.asked(), 0);
        Trial.finds("put(1, 2)", x, () -> x.put(1, 2, 5), Trial.BEYOND);
        Trial.finds("put(1, -1)", x, () -> x.put(1, -1, 5), Trial.BEYOND);
        Trial.refused("put(4)", x, () -> x.put(4, 0, 5), CanalRings.BAD);
        Trial.refused("put(-1)", x, () -> x.put(-1, 0, 5), CanalRings.BAD);
    }
}
