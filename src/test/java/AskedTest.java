/** Promises 14 to 16 and 18: what one asks of objects, fields, lists, and all. */
public final class AskedTest {
    private static final int NONE = Due.NONE;
    private static final int VOID = Due.VOID;

    public static void main(String[] args) {
        ofObject();
        ofField();
        lists();
        listsEdges();
        many();
        Due.end();
    }

    private static void ofObject() {
        ShapeCourt court = new ShapeCourt();
        court.make(NONE);
        court.make(0);
        court.make(0);
        court.write(1, 5, 1);
        court.pair(1, 6, 5, 5, 1, false);
        Due.row("14: the parent", Courts.objectRow(court, 0), NONE, 0, 0, 0, 1, 2, 1, 3);
        Due.row("14: the child", Courts.objectRow(court, 1), 0, 2, 3, 0, 0, 0, 2, 6);
        court.shut(1, true);
        Due.row("14: frozen", Courts.objectRow(court, 1), 0, 2, NONE, 1, 0, 0, 2, 9);
        Due.noIndex(court, "14: object", () -> court.ofObject(3, 8));
        Due.noIndex(court, "14: object -1", () -> court.ofObject(-1, 0));
        Due.noArgument(court, "14: what 8", () -> court.ofObject(0, 8));
        Due.noArgument(court, "14: what -1", () -> court.ofObject(0, -1));
    }

    private static void ofField() {
        ShapeCourt court = new ShapeCourt();
        court.make(NONE);
        court.make(0);
        court.define(0, 9, 12, true, true);
        court.pair(0, 1, 2, NONE, 5, false);
        int[] none = {0, VOID, 0, 0, NONE, NONE, NONE};
        int[] plain = {1, 12, 1, 1, NONE, NONE, 0};
        int[] pair = {2, VOID, 0, 0, 2, NONE, 1};
        for (int what = 0; what < 7; what++) {
            Due.is("15: none, " + what, court.ofField(0, 0, what), none[what]);
            Due.is("15: none of its own, " + what, court.ofField(1, 9, what), none[what]);
            Due.is("15: plain, " + what, court.ofField(0, 9, what), plain[what]);
            Due.is("15: a pair, " + what, court.ofField(0, 1, what), pair[what]);
        }
        Due.noIndex(court, "15: object", () -> court.ofField(2, 0, 9));
        Due.noIndex(court, "15: name 12", () -> court.ofField(0, 12, 9));
        Due.noIndex(court, "15: name -1", () -> court.ofField(0, -1, 0));
        Due.noArgument(court, "15: what 7", () -> court.ofField(0, 0, 7));
        Due.noArgument(court, "15: what -1", () -> court.ofField(0, 0, -1));
    }

    private static void lists() {
        ShapeCourt court = new ShapeCourt();
        court.make(NONE);
        court.make(0);
        Due.row("16: empty", Courts.listRow(court, 1));
        int[] own = {7, 3, 4, 0};
        for (int name : own) {
            court.write(1, name, 1);
        }
        int[] parents = {11, 2, 7, 5, 1};
        for (int name : parents) {
            court.write(0, name, 1);
        }
        Due.row("16: numeric ones first", Courts.listRow(court, 0), 1, 2, 11, 7, 5);
        Due.row("16: then those of the parent", Courts.listRow(court, 1), 0, 3, 7, 4, 1, 2, 11, 5);
        court.define(1, 7, 1, false, true);
        Due.row("16: hidden, and hides the parent's", Courts.listRow(court, 1), 0, 3, 4, 1, 2, 11, 5);
        court.define(0, 2, 1, false, true);
        Due.row("16: hidden there", Courts.listRow(court, 1), 0, 3, 4, 1, 11, 5);
        court.write(1, 2, 1);
        Due.row("16: not hidden of the child", Courts.listRow(court, 1), 0, 2, 3, 4, 1, 11, 5);
        court.remove(0, 11);
        court.write(0, 11, 1);
        Due.row("16: one that came again is the last", Courts.listRow(court, 0), 1, 7, 5, 11);
        court.pair(0, 7, 1, 1, 0, false);
        Due.row("16: a pair keeps its place", Courts.listRow(court, 0), 1, 7, 5, 11);
    }

    private static void listsEdges() {
        ShapeCourt court = new ShapeCourt();
        court.make(NONE);
        court.make(0);
        for (int name = 11; name >= 0; name--) {
            court.write(name % 2, name, 1);
        }
        Due.row("16: all twelve", Courts.listRow(court, 1), 1, 3, 11, 9, 7, 5, 0, 2, 10, 8, 6, 4);
        Due.noIndex(court, "16: place 12", () -> court.listed(1, 12));
        Due.noIndex(court, "16: place 6 of the parent", () -> court.listed(0, 6));
        Due.noIndex(court, "16: place -1", () -> court.listed(1, -1));
        Due.noIndex(court, "16: object", () -> court.listed(2, 0));
        Due.noIndex(court, "16: object -1", () -> court.listed(-1, 0));
    }

    private static void many() {
        ShapeCourt court = new ShapeCourt();
        court.make(NONE);
        court.make(0);
        court.make(0);
        court.write(1, 5, 1);
        court.pair(1, 6, 5, 5, 1, false);
        court.write(2, 5, 1);
        court.write(2, 6, 1);
        court.remove(2, 6);
        court.readAt(0, 1, 5);
        court.readAt(1, 1, 7);
        court.readAt(1, 1, 7);
        court.write(0, 7, 7);
        court.readAt(2, 1, 7);
        int[] due = {3, 4, 6, 1, 1, 1, 3, 18, 43, 2, 4};
        for (int what = 0; what <= 10; what++) {
            Due.is("18: many, " + what, court.many(what), due[what]);
        }
        Due.noArgument(court, "18: what 11", () -> court.many(11));
        Due.noArgument(court, "18: what -1", () -> court.many(-1));
    }
}
