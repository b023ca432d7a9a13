/** Promises 11 to 13 and 19 to 21: places, their entries, costs, and what drops them. */
public final class PlacesTest {
    private static final int NONE = Due.NONE;
    private static final int VOID = Due.VOID;

    public static void main(String[] args) {
        hitsAndMisses();
        missesOfLooseOnes();
        costsOfGetters();
        entriesComeAndGo();
        checksArguments();
        meanCost();
        dropsWhatHangsBeneath();
        dropsByEachChange();
        dropsNothingByOthers();
        Due.end();
    }

    private static void hitsAndMisses() {
        ShapeCourt court = new ShapeCourt();
        court.make(NONE);
        court.make(0);
        court.make(0);
        court.write(0, 6, 7);
        court.write(1, 5, 1);
        court.write(2, 5, 2);
        Due.row("12: before", Courts.placeRow(court, 3), 0, 0, 0, 0, 0, 0);
        Due.is("20: a miss would be", court.wouldCost(3, 1, 5), 5);
        Due.row("20: nothing is changed", Courts.placeRow(court, 3), 0, 0, 0, 0, 0, 0);
        Due.is("11: value", court.readAt(3, 1, 5), 1);
        Due.row("12: a miss", Courts.placeRow(court, 3), 1, 0, 1, 5, 5, 0);
        Due.is("20: a hit would be", court.wouldCost(3, 2, 5), 1);
        Due.is("11: value of another one", court.readAt(3, 2, 5), 2);
        Due.row("12: a hit", Courts.placeRow(court, 3), 1, 1, 1, 6, 1, 0);
        Due.is("11: of the parent", court.readAt(3, 2, 6), 7);
        Due.row("12: a miss of two", Courts.placeRow(court, 3), 2, 1, 2, 12, 6, 0);
        Due.is("11: nowhere", court.readAt(3, 2, 7), VOID);
        Due.row("12: a miss of all", Courts.placeRow(court, 3), 3, 1, 3, 18, 6, 0);
        Due.is("11: nowhere again", court.readAt(3, 1, 7), VOID);
        Due.row("12: a hit of none", Courts.placeRow(court, 3), 3, 2, 3, 19, 1, 0);
        int shape = court.ofObject(1, 2);
        Due.row("13: its own", Courts.entryRow(court, 3, 0), shape, 5, 0);
        Due.row("13: of the parent", Courts.entryRow(court, 3, 1), shape, 6, 1);
        Due.row("13: of none", Courts.entryRow(court, 3, 2), shape, 7, NONE);
        Due.row("12: another place", Courts.placeRow(court, 2), 0, 0, 0, 0, 0, 0);
    }

    private static void missesOfLooseOnes() {
        ShapeCourt court = new ShapeCourt();
        court.make(NONE);
        court.write(0, 5, 1);
        court.write(0, 6, 1);
        court.readAt(0, 0, 5);
        court.remove(0, 6);
        court.readAt(0, 0, 5);
        Due.row("12: a loose one misses", Courts.placeRow(court, 0), 1, 0, 2, 10, 5, 0);
        court.readAt(1, 0, 5);
        Due.row("12: no entry comes of it", Courts.placeRow(court, 1), 0, 0, 1, 5, 5, 0);
        court.settle(0);
        court.write(0, 6, 1);
        court.readAt(0, 0, 5);
        Due.row("12: back with its shape it hits", Courts.placeRow(court, 0), 1, 1, 2, 11, 1, 0);
    }

    private static void costsOfGetters() {
        ShapeCourt court = new ShapeCourt();
        court.make(NONE);
        court.make(0);
        court.make(1);
        court.pair(1, 4, 5, NONE, 1, false);
        court.pair(2, 5, 6, NONE, 1, false);
        court.write(0, 6, 1);
        // 4 and 2 for name 4; 2 and 1 for name 5; 2 and 3 for name 6.
        Due.is("20: getters on a miss", court.wouldCost(0, 2, 4), 6 + 3 + 5);
        Due.is("11: getters", court.readAt(0, 2, 4), 3);
        Due.is("12: getters on a miss", court.ofPlace(0, 4), 14);
        Due.is("20: getters on a hit", court.wouldCost(0, 2, 4), 1 + 3 + 5);
        court.readAt(0, 2, 4);
        Due.is("12: getters on a hit", court.ofPlace(0, 4), 9);
        court.readAt(0, 2, 5);
        Due.is("12: what getters read knows no place", court.ofPlace(0, 0), 2);
        court.pair(1, 4, NONE, 5, 1, false);
        Due.is("20: no getter", court.wouldCost(1, 2, 4), 6);
        court.pair(1, 4, 9, NONE, 1, false);
        Due.is("20: a getter to nowhere", court.wouldCost(1, 2, 4), 6 + 2 + 3);
        Due.is("20: its entry is as good", court.wouldCost(0, 2, 4), 1 + 2 + 3);
    }

    private static void entriesComeAndGo() {
        ShapeCourt court = new ShapeCourt();
        court.make(NONE);
        for (int name = 0; name < 4; name++) {
            court.readAt(5, 0, name);
        }
        Due.row("12: three at most", Courts.placeRow(court, 5), 3, 0, 4, 20, 5, 0);
        Due.row("13: the first went", Courts.entryRow(court, 5, 0), 0, 1, NONE);
        Due.row("13: the last came last", Courts.entryRow(court, 5, 2), 0, 3, NONE);
        court.readAt(5, 0, 1);
        court.readAt(5, 0, 4);
        Due.is("13: a hit moves none", court.entry(5, 0, 1), 2);
        Due.is("18: pushed ones are not counted", court.many(9), 0);
        Due.is("18: entries", court.many(4), 3);
        Due.is("18: hits", court.many(5), 1);
        Due.is("18: misses", court.many(6), 5);
        Due.is("18: cost", court.many(7), 26);
    }

    private static void checksArguments() {
        ShapeCourt court = new ShapeCourt();
        court.make(NONE);
        court.readAt(0, 0, 0);
        Due.noIndex(court, "11: place 6", () -> court.readAt(6, 0, 0));
        Due.noIndex(court, "11: place -1", () -> court.readAt(-1, 0, 0));
        Due.noIndex(court, "11: object", () -> court.readAt(0, 1, 0));
        Due.noIndex(court, "11: name", () -> court.readAt(0, 0, 12));
        Due.noIndex(court, "12: place", () -> court.ofPlace(6, 9));
        Due.noArgument(court, "12: what 6", () -> court.ofPlace(5, 6));
        Due.noArgument(court, "12: what -1", () -> court.ofPlace(0, -1));
        Due.noIndex(court, "13: place", () -> court.entry(6, 0, 0));
        Due.noIndex(court, "13: entry ahead of what", () -> court.entry(0, 1, 3));
        Due.noIndex(court, "13: entry -1", () -> court.entry(0, -1, 0));
        Due.noArgument(court, "13: what 3", () -> court.entry(0, 0, 3));
        Due.noArgument(court, "13: what -1", () -> court.entry(0, 0, -1));
        Due.noIndex(court, "20: place", () -> court.wouldCost(-1, 0, 0));
        Due.noIndex(court, "20: object", () -> court.wouldCost(0, -1, 0));
        Due.noIndex(court, "20: name", () -> court.wouldCost(0, 0, -1));
        Due.noIndex(court, "21: object", () -> court.wouldDrop(1, 0));
        Due.noIndex(court, "21: name", () -> court.wouldDrop(0, 12));
    }

    private static void meanCost() {
        ShapeCourt court = new ShapeCourt();
        Due.isExactly("19: without any", court.meanCost(), 0.0);
        court.make(NONE);
        court.read(0, 0);
        Due.isExactly("19: a read without a place", court.meanCost(), 0.0);
        court.readAt(0, 0, 0);
        Due.isExactly("19: one", court.meanCost(), 5.0);
        court.readAt(0, 0, 0);
        court.readAt(0, 0, 0);
        Due.isExactly("19: not cut", court.meanCost(), 7.0 / 3);
        court.readAt(4, 0, 0);
        Due.isExactly("19: of all places", court.meanCost(), 3.0);
    }

    /** 0 is the parent of 1, that of 2, and 3 stands alone; each is read at a place of its number. */
    private static ShapeCourt family() {
        ShapeCourt court = new ShapeCourt();
        court.make(NONE);
        court.make(0);
        court.make(1);
        court.make(NONE);
        court.define(0, 4, 1, false, false);
        for (int object = 0; object < 4; object++) {
            court.readAt(object, object, 4);
        }
        court.readAt(4, 2, 5);
        return court;
    }

    private static void dropsWhatHangsBeneath() {
        ShapeCourt court = family();
        Due.is("21: of 0", court.wouldDrop(0, 9), 3);
        Due.is("21: of 0, one that it has", court.wouldDrop(0, 4), 3);
        Due.is("21: of 1", court.wouldDrop(1, 9), 2);
        Due.is("21: of 2, which is not watched", court.wouldDrop(2, 9), 0);
        Due.is("21: of 3", court.wouldDrop(3, 9), 0);
        court.shut(1, true);
        Due.is("21: shut or not", court.wouldDrop(1, 9), 2);
        court = family();
        court.write(1, 9, 1);
        Due.row("12: of 0 it stays", Courts.placeRow(court, 0), 1, 0, 1, 5, 5, 0);
        Due.row("12: of 1 it stays", Courts.placeRow(court, 1), 1, 0, 1, 6, 6, 0);
        Due.row("12: of 2 it went", Courts.placeRow(court, 2), 0, 0, 1, 7, 7, 1);
        Due.row("12: of 2 elsewhere, too", Courts.placeRow(court, 4), 0, 0, 1, 7, 7, 1);
        Due.is("18: went", court.many(9), 2);
    }

    private static void dropsByEachChange() {
        ShapeCourt court = family();
        court.remove(0, 4);
        Due.is("11: dropped as a field goes", court.many(9), 3);
        court = family();
        court.define(0, 4, 1, true, false);
        Due.is("11: dropped as it is fixed", court.many(9), 3);
        court = family();
        court.define(0, 4, 1, false, true);
        Due.is("11: dropped as it is hidden", court.many(9), 3);
        court = family();
        court.pair(0, 4, 5, 5, 1, false);
        Due.is("11: dropped as it is a pair", court.many(9), 3);
        court = family();
        court.shut(0, true);
        Due.is("11: dropped as it is frozen", court.many(9), 3);
        court = family();
        court.adopt(1, 3);
        Due.is("11: dropped as its parent is another one", court.many(9), 2);
        court = family();
        court.adopt(1, NONE);
        Due.is("11: dropped as it has none", court.many(9), 2);
        court = family();
        court.pair(0, 6, NONE, 5, 0, true);
        Due.is("11: dropped as a pair comes", court.many(9), 3);
        court = family();
        court.adopt(2, NONE);
        court.readAt(5, 1, 4);
        court.remove(0, 4);
        Due.is("11: dropped of the root's line", court.many(9), 4);
        court = family();
        court.adopt(1, NONE);
        court.readAt(5, 2, 4);
        court.write(0, 8, 1);
        Due.is("11: 1 hangs beneath 0 no more", court.many(9), 3);
        court = family();
        court.adopt(1, NONE);
        court.adopt(2, NONE);
        court.make(1);
        court.readAt(5, 4, 9);
        court.adopt(4, NONE);
        Due.is("14: watched once is watched", court.ofObject(1, 4), 1);
        court.write(1, 9, 9);
        Due.is("11: the root of one that was the parent", court.many(9), 3);
    }

    private static void dropsNothingByOthers() {
        ShapeCourt court = family();
        court.write(0, 4, 9);
        court.define(0, 4, 8, false, false);
        court.shut(0, false);
        court.adopt(1, 0);
        court.settle(1);
        court.write(3, 4, 1);
        court.adopt(2, 0);
        court.remove(0, 11);
        Due.is("11: none went", court.many(9), 0);
        Due.is("18: all stay", court.many(4), 5);
        Due.is("11: the value is new", court.readAt(1, 1, 4), 8);
        Due.is("12: on a hit", court.ofPlace(1, 4), 1);
        court.pair(2, 9, 4, NONE, 0, false);
        court.make(2);
        court.readAt(5, 4, 9);
        court.pair(2, 9, 5, NONE, 7, false);
        Due.is("11: another getter drops none", court.many(9), 0);
        court.pair(2, 9, 5, NONE, 7, true);
        Due.is("11: hidden drops it", court.many(9), 1);
    }
}
