import java.math.BigInteger;

/** Promises 1 to 24: each sentence that names a boundary case, in the order of the document. */
public final class PromiseEdgesTest {
    private static final int NONE = Due.NONE;
    private static final int VOID = Due.VOID;
    private static final int LOW = Integer.MIN_VALUE;
    private static final int HIGH = Integer.MAX_VALUE;

    public static void main(String[] args) {
        aNewCourtHasNoObjects();
        noObjectBelowOrAbove(0);
        noObjectBelowOrAbove(1);
        noObjectBelowOrAbove(24);
        noParentBelowOrAbove();
        indicesAheadOfArguments();
        argumentsAheadOfRefusals();
        makeOnFull();
        writeTellsWhetherRefused();
        defineWhenShutOrFixed();
        definesKeepTheOrder();
        pairWhenShutOrFixed();
        removeWithoutOrFixed();
        adoptWhenShutOrARing();
        shutCountsWhatBecameFixed();
        settleTellsOfAShape();
        readsAtAPlaceAsWithout();
        ofPlaceBelowAndAbove();
        entryBelowAndAbove();
        ofObjectBelowAndAbove();
        howManyHaveItAsTheirParent();
        ofFieldBelowAndAbove();
        ofFieldOfNone();
        listedBelowAndAbove();
        ofShapeBelowAndAbove();
        manyBelowAndAbove();
        manyOfNothing();
        meanOfNothing();
        meanIsNotCut();
        wouldCostOfAHitAndAMiss();
        wouldDropWhetherShutOrFixed();
        wouldSaveBelowZero();
        wouldSaveOfOneWithAShape();
        differsOfNoneAndAll();
        digestWrapsAround();
        digestOfNothing();
        digestOfAllThatThereIs();
        Due.end();
    }

    /** Promise 1: "without OBJECTS". */
    private static void aNewCourtHasNoObjects() {
        ShapeCourt court = new ShapeCourt();
        Due.row("1: none of all", Courts.manyRow(court), 0, 0, 0, 0, 0, 0, 0, 0, 0, 0, 0);
        for (int place = 0; place < 6; place++) {
            Due.row("1: place " + place, Courts.placeRow(court, place), 0, 0, 0, 0, 0, 0);
        }
        Due.noIndex(court, "1: no parent", () -> court.make(0));
        Due.noIndex(court, "1: no shape", () -> court.ofShape(0, 0));
        Due.noIndex(court, "1: no entry", () -> court.entry(0, 0, 0));
        Due.is("1: the first", court.make(NONE), 0);
        Due.is("1: another court has none by that", new ShapeCourt().many(0), 0);
    }

    /** "if there is no such OBJECT": of each call that takes one, with so many of them. */
    private static void noObjectBelowOrAbove(int objects) {
        ShapeCourt court = Courts.alone(objects);
        int[] bad = {-1, -2, objects, objects + 1, 1000, LOW, HIGH};
        for (int object : bad) {
            String of = " of object " + object + " of " + objects;
            Due.noIndex(court, "3:" + of, () -> court.read(object, 0));
            Due.noIndex(court, "4:" + of, () -> court.write(object, 0, 0));
            Due.noIndex(court, "5:" + of, () -> court.define(object, 0, 0, false, false));
            Due.noIndex(court, "6:" + of, () -> court.pair(object, 0, 0, 0, 0, false));
            Due.noIndex(court, "7:" + of, () -> court.remove(object, 0));
            Due.noIndex(court, "8:" + of, () -> court.adopt(object, NONE));
            Due.noIndex(court, "9:" + of, () -> court.shut(object, false));
            Due.noIndex(court, "9: frozen" + of, () -> court.shut(object, true));
            Due.noIndex(court, "10:" + of, () -> court.settle(object));
            Due.noIndex(court, "11:" + of, () -> court.readAt(0, object, 0));
            Due.noIndex(court, "14:" + of, () -> court.ofObject(object, 0));
            Due.noIndex(court, "15:" + of, () -> court.ofField(object, 0, 0));
            Due.noIndex(court, "16:" + of, () -> court.listed(object, 0));
            Due.noIndex(court, "20:" + of, () -> court.wouldCost(0, object, 0));
            Due.noIndex(court, "21:" + of, () -> court.wouldDrop(object, 0));
            Due.noIndex(court, "22:" + of, () -> court.wouldSave(object));
            Due.noIndex(court, "23: one" + of, () -> court.differs(object, 0));
            Due.noIndex(court, "23: other" + of, () -> court.differs(0, object));
        }
    }

    /** "no such PARENT (but NONE)". */
    private static void noParentBelowOrAbove() {
        ShapeCourt court = Courts.of(NONE, NONE);
        int[] bad = {-2, 2, 3, 24, 1000, LOW, HIGH};
        for (int parent : bad) {
            Due.noIndex(court, "2: parent " + parent, () -> court.make(parent));
            Due.noIndex(court, "8: parent " + parent, () -> court.adopt(0, parent));
        }
        Due.is("8: NONE", court.adopt(0, NONE), true);
        Due.is("8: the last one", court.adopt(0, 1), true);
        Due.is("2: NONE", court.make(NONE), 2);
        Due.is("2: the last one", court.make(2), 3);
    }

    /** "If several exceptions apply, the one that is named first is thrown." */
    private static void indicesAheadOfArguments() {
        ShapeCourt court = Courts.of(NONE);
        court.readAt(0, 0, 0);
        Due.noIndex(court, "4: object, value", () -> court.write(1, 0, 1001));
        Due.noIndex(court, "4: name, value", () -> court.write(0, 12, 1001));
        Due.noIndex(court, "5: object, value", () -> court.define(-1, 0, -1001, true, true));
        Due.noIndex(court, "5: name, value", () -> court.define(0, -1, -1001, true, true));
        Due.noIndex(court, "6: object, getter", () -> court.pair(1, 0, 12, 0, 0, false));
        Due.noIndex(court, "6: name, neither", () -> court.pair(0, 12, NONE, NONE, 0, false));
        Due.noIndex(court, "6: name, setter", () -> court.pair(0, -1, 0, -2, 0, false));
        Due.noIndex(court, "6: name, n", () -> court.pair(0, 12, 0, 0, 100, false));
        Due.noIndex(court, "12: place, what", () -> court.ofPlace(6, 6));
        Due.noIndex(court, "13: place, what", () -> court.entry(-1, 0, 3));
        Due.noIndex(court, "13: entry, what", () -> court.entry(0, 1, -1));
        Due.noIndex(court, "13: entry -1, what", () -> court.entry(0, -1, 3));
        Due.noIndex(court, "14: object, what", () -> court.ofObject(1, -1));
        Due.noIndex(court, "15: object, what", () -> court.ofField(-1, 0, 7));
        Due.noIndex(court, "15: name, what", () -> court.ofField(0, 12, -1));
        Due.noIndex(court, "17: shape, what", () -> court.ofShape(1, 7));
        Due.noIndex(court, "17: shape -1, what", () -> court.ofShape(-1, -1));
        ShapeCourt full = Courts.alone(24);
        Due.noIndex(full, "2: parent 24, and 24 are there", () -> full.make(24));
        Due.noIndex(full, "2: parent -2, and 24 are there", () -> full.make(-2));
    }

    /** What is wrong is thrown though the call would be REFUSED. */
    private static void argumentsAheadOfRefusals() {
        ShapeCourt court = Courts.of(NONE);
        court.define(0, 4, 1, true, false);
        court.shut(0, true);
        int[] names = {4, 5};
        for (int name : names) {
            Due.noArgument(court, "4: name " + name, () -> court.write(0, name, 1001));
            Due.noArgument(court, "5: name " + name, () -> court.define(0, name, 1001, false, false));
            Due.noArgument(court, "6: getter, name " + name, () -> court.pair(0, name, 12, 1, 0, false));
            Due.noArgument(court, "6: setter, name " + name, () -> court.pair(0, name, 1, 12, 0, false));
            Due.noArgument(court, "6: neither, name " + name, () -> court.pair(0, name, NONE, NONE, 0, false));
            Due.noArgument(court, "6: n, name " + name, () -> court.pair(0, name, 1, 1, 100, false));
        }
        Due.noIndex(court, "8: of a shut one", () -> court.adopt(0, 1));
        Due.noIndex(court, "7: of a fixed one's object", () -> court.remove(0, 12));
    }

    /** Promise 2: "if there are 24" (SHAPES or not). */
    private static void makeOnFull() {
        ShapeCourt court = Courts.alone(12);
        Courts.fillWithShapes(court, 80);
        for (int k = 12; k < 24; k++) {
            Due.is("2: with eighty shapes", court.make(k - 1), k);
            Due.is("2: loose", Courts.shapeOf(court, k), NONE);
            Due.row("2: without fields", Courts.objectRow(court, k), k - 1, 0, NONE, 0, 0, 0, k - 10, 3);
        }
        Due.throwsOn(court, "2: 24 are there", IllegalStateException.class, () -> court.make(NONE));
        Due.throwsOn(court, "2: 24 are there, 0", IllegalStateException.class, () -> court.make(0));
        Due.is("2: 0 is not watched by that", court.ofObject(0, 4), 0);
    }

    /** Promise 4: "whether it was not REFUSED". */
    private static void writeTellsWhetherRefused() {
        ShapeCourt court = Courts.of(NONE, 0);
        court.define(0, 4, 1, true, false);
        court.pair(0, 5, 6, NONE, 0, false);
        court.pair(0, 7, NONE, 6, 0, false);
        Due.is("4: none", court.write(1, 8, 1), true);
        Due.is("4: the same value again", court.write(1, 8, 1), true);
        Due.is("4: fixed", court.write(1, 4, 1), false);
        Due.is("4: no setter", court.write(1, 5, 1), false);
        Due.is("4: a setter", court.write(1, 7, 1), true);
        court.shut(1, false);
        Due.is("4: a setter, shut, the field is there", court.write(1, 7, 2), true);
        court.remove(1, 6);
        Due.is("4: a setter, shut, the field is not", court.write(1, 7, 2), false);
    }

    /** Promise 5: "false, if it is SHUT and has none, or has a PLAIN one that is FIXED". */
    private static void defineWhenShutOrFixed() {
        ShapeCourt court = Courts.of(NONE, 0);
        court.define(0, 4, 1, true, false);
        Due.is("5: fixed, the same", court.define(0, 4, 1, true, false), false);
        Due.is("5: fixed, open", court.define(0, 4, 2, false, true), false);
        Due.row("15: as it was", Courts.fieldRow(court, 0, 4), 1, 1, 1, 0, NONE, NONE, 0);
        Due.is("5: the parent's is no bar", court.define(1, 4, 2, false, false), true);
        court.shut(1, false);
        Due.is("5: shut and has one", court.define(1, 4, 3, true, true), true);
        Due.row("15: made another one", Courts.fieldRow(court, 1, 4), 1, 3, 1, 1, NONE, NONE, 0);
        Due.is("5: shut and has none", court.define(1, 5, 3, false, false), false);
        Due.is("14: none came", court.ofObject(1, 1), 1);
        court.pair(0, 6, 1, 1, 1, false);
        court.shut(0, true);
        Due.is("5: frozen, in place of a pair", court.define(0, 6, 3, false, false), true);
        Due.is("5: and that is not fixed", court.write(0, 6, 4), true);
    }

    /** Promise 5: "in place of that of this NAME, if it has one (which keeps its place in the ORDER)". */
    private static void definesKeepTheOrder() {
        ShapeCourt court = Courts.of(NONE);
        Courts.write(court, 0, 6, 5, 4);
        court.define(0, 6, 9, false, true);
        court.pair(0, 5, 6, 7, -8, true);
        court.define(0, 6, 9, false, false);
        court.pair(0, 5, 6, 7, -8, false);
        Due.row("16: in their order", Courts.listRow(court, 0), 6, 5, 4);
        Due.is("15: the first", court.ofField(0, 6, 6), 0);
        Due.is("15: the second", court.ofField(0, 5, 6), 1);
        Due.is("3: by the new n", court.read(0, 5), 1);
        court.define(0, 5, 3, false, false);
        Due.row("15: plain again", Courts.fieldRow(court, 0, 5), 1, 3, 0, 0, NONE, NONE, 1);
        court.define(0, 11, 3, false, false);
        Due.is("15: one more is the last", court.ofField(0, 11, 6), 3);
    }

    /** Promise 6: "whether it is so, as above". */
    private static void pairWhenShutOrFixed() {
        ShapeCourt court = Courts.of(NONE, 0);
        court.define(0, 4, 1, true, false);
        Due.is("6: fixed", court.pair(0, 4, 1, 1, 1, false), false);
        Due.row("15: as it was", Courts.fieldRow(court, 0, 4), 1, 1, 1, 0, NONE, NONE, 0);
        Due.is("6: the parent's is no bar", court.pair(1, 4, 1, 2, 1, false), true);
        court.shut(1, true);
        Due.is("6: shut and has one", court.pair(1, 4, NONE, 3, 1, true), true);
        Due.row("15: another pair", Courts.fieldRow(court, 1, 4), 2, VOID, 0, 1, NONE, 3, 0);
        Due.is("6: shut and has none", court.pair(1, 5, 1, 2, 1, false), false);
        Due.is("14: none came", court.ofObject(1, 1), 1);
    }

    /** Promise 7: "false, if it has none, or a PLAIN one that is FIXED". */
    private static void removeWithoutOrFixed() {
        ShapeCourt court = Courts.of(NONE, 0);
        Due.is("7: none", court.remove(0, 0), false);
        court.define(0, 4, 1, true, false);
        court.pair(0, 5, 1, 1, 1, false);
        court.define(0, 6, 1, false, true);
        Due.is("7: fixed", court.remove(0, 4), false);
        Due.is("7: of the parent alone", court.remove(1, 5), false);
        court.shut(0, false);
        Due.is("7: a pair, shut", court.remove(0, 5), true);
        Due.is("7: hidden, shut", court.remove(0, 6), true);
        Due.is("7: gone already", court.remove(0, 6), false);
        Due.is("14: the fixed one is left", court.ofObject(0, 1), 1);
    }

    /** Promise 8: "false, if it is SHUT, and that is another one than before, or if it would be a ring". */
    private static void adoptWhenShutOrARing() {
        ShapeCourt court = Courts.of(NONE, 0, 1, NONE);
        court.shut(0, false);
        court.shut(1, false);
        Due.is("8: shut, the same", court.adopt(1, 0), true);
        Due.is("8: shut, NONE as before", court.adopt(0, NONE), true);
        Due.is("8: shut, another one", court.adopt(1, 3), false);
        Due.is("8: shut, NONE", court.adopt(1, NONE), false);
        Due.is("8: shut, one instead of none", court.adopt(0, 3), false);
        Due.is("8: shut and a ring", court.adopt(1, 2), false);
        Due.is("8: itself", court.adopt(2, 2), false);
        Due.is("8: a shut one is a parent", court.adopt(2, 0), true);
        Due.is("8: a ring of two", court.adopt(3, 3), false);
        Due.is("14: its parent", court.ofObject(1, 0), 0);
        Due.is("14: how many have it", court.ofObject(0, 5), 2);
    }

    /** Promise 9: "how many FIELDS became FIXED by that". */
    private static void shutCountsWhatBecameFixed() {
        ShapeCourt court = Courts.of(NONE, 0);
        Due.is("9: no field", court.shut(1, true), 0);
        Courts.write(court, 0, 0, 1, 2, 3, 4, 5, 6, 7, 8, 9);
        court.pair(0, 10, 1, 1, 1, false);
        court.define(0, 11, 1, true, false);
        Due.is("9: not to be frozen", court.shut(0, false), 0);
        Due.is("9: frozen, as it is shut already", court.shut(0, true), 10);
        Due.is("9: frozen already", court.shut(0, true), 0);
        Due.is("9: not to be frozen again", court.shut(0, false), 0);
        Due.is("9: fixed still", court.write(0, 0, 5), false);
        for (int name = 0; name < 12; name++) {
            Due.is("15: fixed " + name, court.ofField(0, name, 2), name == 10 ? 0 : 1);
        }
        court.define(0, 10, 1, false, false);
        Due.is("9: one that is plain by now", court.shut(0, true), 1);
    }

    /** Promise 10: "whether it has a SHAPE then". */
    private static void settleTellsOfAShape() {
        ShapeCourt court = Courts.of(NONE, 0);
        Due.is("10: it has one", court.settle(0), true);
        Courts.write(court, 0, 0, 1, 2, 3, 4, 5, 6, 7, 8);
        Due.is("10: nine fields", court.settle(0), false);
        Courts.write(court, 1, 4, 5);
        court.remove(1, 5);
        court.shut(1, true);
        court.readAt(0, 0, 11);
        Due.is("10: shut and loose", court.settle(1), true);
        Due.is("10: watched and loose, no entry goes", court.many(9), 0);
        Due.is("10: a fixed one is another shape", court.many(2), 13);
    }

    /** Promise 11: "the VALUE", on a HIT and on a MISS. */
    private static void readsAtAPlaceAsWithout() {
        ShapeCourt court = Courts.of(NONE, 0);
        court.pair(0, 4, 5, NONE, 99, false);
        court.write(1, 5, 950);
        for (int reads = 0; reads < 2; reads++) {
            Due.is("11: held", court.readAt(0, 1, 4), 999);
            Due.is("11: VOID", court.readAt(0, 1, 6), VOID);
        }
        court.write(1, 5, VOID);
        Due.is("11: VOID on a hit", court.readAt(0, 1, 4), VOID);
        int cost = (6 + 3) + 6 + (1 + 3) + 1 + (1 + 3);
        Due.row("12: two entries", Courts.placeRow(court, 0), 2, 3, 2, cost, 4, 0);
    }

    /** Promise 12: "if what is not 0 to 5"; "4 the COST of the last one (0 without one)". */
    private static void ofPlaceBelowAndAbove() {
        ShapeCourt court = Courts.of(NONE);
        Due.is("12: the last one without one", court.ofPlace(5, 4), 0);
        court.readAt(5, 0, 0);
        court.readAt(5, 0, 0);
        Due.row("12: 0 to 5", Courts.placeRow(court, 5), 1, 1, 1, 6, 1, 0);
        Due.is("12: the last one of another place", court.ofPlace(4, 4), 0);
        court.wouldCost(5, 0, 1);
        Due.is("12: the last one that was read", court.ofPlace(5, 4), 1);
        int[] bad = {-1, 6, LOW, HIGH};
        for (int what : bad) {
            Due.noArgument(court, "12: what " + what, () -> court.ofPlace(5, what));
        }
    }

    /** Promise 13: "no such PLACE, or ENTRY"; "if what is not 0 to 2". */
    private static void entryBelowAndAbove() {
        ShapeCourt court = Courts.of(NONE);
        for (int size = 0; size <= 3; size++) {
            int[] bad = {-1, size, size + 1, LOW, HIGH};
            for (int k : bad) {
                Due.noIndex(court, "13: entry " + k + " of " + size, () -> court.entry(5, k, 0));
            }
            for (int k = 0; k < size; k++) {
                Due.row("13: entry " + k, Courts.entryRow(court, 5, k), 0, k, NONE);
            }
            court.readAt(5, 0, size);
        }
        int[] bad = {-1, 3, LOW, HIGH};
        for (int what : bad) {
            Due.noArgument(court, "13: what " + what, () -> court.entry(5, 0, what));
        }
    }

    /** Promise 14: "its PARENT (NONE)", "its SHAPE (NONE, if it is LOOSE)", "if what is not 0 to 7". */
    private static void ofObjectBelowAndAbove() {
        ShapeCourt court = Courts.of(NONE, 0, 0, 2);
        Courts.write(court, 3, 4);
        court.remove(3, 4);
        court.shut(3, false);
        Due.row("14: no parent", Courts.objectRow(court, 0), NONE, 0, 0, 0, 1, 2, 1, 3);
        Due.row("14: parent 0", Courts.objectRow(court, 1), 0, 0, 1, 0, 0, 0, 2, 3);
        Due.row("14: loose and shut", Courts.objectRow(court, 3), 2, 0, NONE, 1, 0, 0, 3, 3);
        int[] bad = {-1, 8, LOW, HIGH};
        for (int what : bad) {
            Due.noArgument(court, "14: what " + what, () -> court.ofObject(0, what));
        }
    }

    /** Promise 14: "how many OBJECTS have it as their PARENT", from none to all others. */
    private static void howManyHaveItAsTheirParent() {
        ShapeCourt court = Courts.alone(24);
        for (int k = 0; k < 23; k++) {
            Due.is("14: by then", court.ofObject(23, 5), k);
            court.adopt(k, 23);
        }
        Due.is("14: all others", court.ofObject(23, 5), 23);
        Due.is("14: none", court.ofObject(0, 5), 0);
        court.adopt(0, 22);
        Due.is("14: all but 0", court.ofObject(23, 5), 22);
        Due.is("14: 0", court.ofObject(22, 5), 1);
    }

    /** Promise 15: "if what is not 0 to 6". */
    private static void ofFieldBelowAndAbove() {
        ShapeCourt court = Courts.of(NONE);
        court.define(0, 11, -999, true, true);
        court.pair(0, 0, 11, 0, 0, true);
        Due.row("15: plain", Courts.fieldRow(court, 0, 11), 1, -999, 1, 1, NONE, NONE, 0);
        Due.row("15: a pair", Courts.fieldRow(court, 0, 0), 2, VOID, 0, 1, 11, 0, 1);
        int[] bad = {-1, 7, LOW, HIGH};
        for (int what : bad) {
            Due.noArgument(court, "15: what " + what, () -> court.ofField(0, 11, what));
            Due.noArgument(court, "15: without one, what " + what, () -> court.ofField(0, 1, what));
        }
    }

    /** Promise 15: "0 without one", "VOID without a PLAIN one", "(NONE)". */
    private static void ofFieldOfNone() {
        ShapeCourt court = Courts.of(NONE, 0);
        Due.row("15: none at all", Courts.fieldRow(court, 0, 4), 0, VOID, 0, 0, NONE, NONE, NONE);
        court.define(0, 4, 7, true, true);
        court.pair(0, 5, 7, 8, 9, true);
        Due.row("15: the parent's alone", Courts.fieldRow(court, 1, 4), 0, VOID, 0, 0, NONE, NONE, NONE);
        Due.row("15: the parent's pair alone", Courts.fieldRow(court, 1, 5), 0, VOID, 0, 0, NONE, NONE, NONE);
        court.remove(0, 5);
        Due.row("15: a pair that went", Courts.fieldRow(court, 0, 5), 0, VOID, 0, 0, NONE, NONE, NONE);
        court.define(1, 6, 3, false, true);
        court.remove(1, 6);
        Due.row("15: a plain one that went", Courts.fieldRow(court, 1, 6), 0, VOID, 0, 0, NONE, NONE, NONE);
    }

    /** Promise 16: "no such OBJECT, or place". */
    private static void listedBelowAndAbove() {
        ShapeCourt court = Courts.of(NONE);
        for (int size = 0; size <= 12; size++) {
            int[] bad = {-1, size, LOW, HIGH};
            for (int k : bad) {
                Due.noIndex(court, "16: place " + k + " of " + size, () -> court.listed(0, k));
            }
            if (size > 0) {
                Due.is("16: the last of " + size, court.listed(0, size - 1), size - 1);
                Due.is("16: the first of " + size, court.listed(0, 0), 0);
            }
            if (size < 12) {
                Courts.write(court, 0, size);
            }
        }
    }

    /** Promise 17: "if there is no such SHAPE"; "if what is not 0 to 6"; "(NONE)". */
    private static void ofShapeBelowAndAbove() {
        ShapeCourt court = Courts.of(NONE, 0);
        court.write(1, 11, 1);
        court.readAt(0, 1, 0);
        Due.row("17: the root of NONE", Courts.shapeRow(court, 0), NONE, NONE, 0, NONE, 0, 1, 0);
        Due.row("17: the root of 0", Courts.shapeRow(court, 1), NONE, 0, 0, NONE, 1, 0, 0);
        Due.row("17: beneath it", Courts.shapeRow(court, 2), 1, 0, 1, 11, 0, 1, 1);
        int[] badShapes = {-1, 3, 4, 80, LOW, HIGH};
        for (int shape : badShapes) {
            Due.noIndex(court, "17: shape " + shape, () -> court.ofShape(shape, 0));
        }
        int[] bad = {-1, 7, LOW, HIGH};
        for (int what : bad) {
            Due.noArgument(court, "17: what " + what, () -> court.ofShape(2, what));
        }
        court.write(1, 0, 1);
        Due.is("17: name 0", court.ofShape(3, 3), 0);
        Due.is("17: how many have the one above", court.ofShape(2, 5), 0);
        Due.is("17: its entry is of it still", court.ofShape(2, 6), 1);
    }

    /** Promise 18: "if what is not 0 to 10". */
    private static void manyBelowAndAbove() {
        ShapeCourt court = Courts.of(NONE, 0, NONE);
        Courts.write(court, 1, 4);
        Courts.write(court, 2, 4);
        court.remove(2, 4);
        court.readAt(0, 1, 4);
        court.readAt(0, 1, 4);
        court.readAt(1, 2, 4);
        court.readAt(1, 0, 4);
        Courts.write(court, 0, 4);
        // Objects, fields, shapes, loose, entries, hits, misses, cost, words, gone, and shapes that none has.
        Due.row("18: 0 to 10", Courts.manyRow(court), 3, 2, 4, 1, 1, 1, 3, 16, 4 + 4 + 3 + 16 + 3, 1, 2);
        int[] bad = {-1, 11, LOW, HIGH};
        for (int what : bad) {
            Due.noArgument(court, "18: what " + what, () -> court.many(what));
        }
    }

    private static void manyOfNothing() {
        ShapeCourt court = new ShapeCourt();
        int[] bad = {-1, 11, LOW, HIGH};
        for (int what : bad) {
            Due.noArgument(court, "18: of nothing, what " + what, () -> court.many(what));
        }
        court.make(NONE);
        Due.row("18: of one", Courts.manyRow(court), 1, 0, 1, 0, 0, 0, 0, 0, 7, 0, 0);
    }

    /** Promise 19: "0 without any". */
    private static void meanOfNothing() {
        ShapeCourt court = new ShapeCourt();
        Due.isExactly("19: no object", court.meanCost(), 0.0);
        court.make(NONE);
        court.read(0, 0);
        court.write(0, 0, 1);
        court.wouldCost(0, 0, 0);
        Due.isExactly("19: nothing read at a place", court.meanCost(), 0.0);
        Due.noIndex(court, "19: a read that throws", () -> court.readAt(0, 1, 0));
        Due.isExactly("19: nothing by one that throws", court.meanCost(), 0.0);
        court.readAt(0, 0, 0);
        Due.isExactly("19: one", court.meanCost(), 5.0);
    }

    /** Promise 19: "not cut". */
    private static void meanIsNotCut() {
        ShapeCourt court = Courts.of(NONE);
        court.readAt(0, 0, 0);
        court.readAt(0, 0, 0);
        court.readAt(0, 0, 0);
        Due.isExactly("19: seven by three", court.meanCost(), 7.0 / 3.0);
        court.readAt(5, 0, 0);
        court.readAt(5, 0, 0);
        court.readAt(5, 0, 0);
        court.readAt(5, 0, 0);
        Due.isExactly("19: fifteen by seven, of all places", court.meanCost(), 15.0 / 7.0);
    }

    /** Promise 20: "the COST of readAt()", and nothing is changed. */
    private static void wouldCostOfAHitAndAMiss() {
        ShapeCourt court = Courts.of(NONE, 0);
        court.pair(0, 4, 5, NONE, 1, false);
        for (int reads = 0; reads < 3; reads++) {
            int[] before = Courts.placeRow(court, 0);
            int would = court.wouldCost(0, 1, 4);
            Due.row("20: nothing is changed", Courts.placeRow(court, 0), before);
            Due.is("20: what it would be", would, (reads == 0 ? 6 : 1) + 4);
            court.readAt(0, 1, 4);
            Due.is("12: as it was said", court.ofPlace(0, 4), would);
        }
    }

    /** Promise 21: "(whether it is SHUT, or that is FIXED, or not)". */
    private static void wouldDropWhetherShutOrFixed() {
        ShapeCourt court = Courts.of(NONE, 0);
        court.define(0, 4, 1, true, false);
        Due.is("21: no entry", court.wouldDrop(0, 4), 0);
        for (int place = 0; place < 6; place++) {
            for (int name = 0; name < 3; name++) {
                court.readAt(place, 1, name);
            }
        }
        Due.is("21: a fixed one that went", court.wouldDrop(0, 4), 18);
        Due.is("21: one that came", court.wouldDrop(0, 5), 18);
        court.shut(0, false);
        Due.is("21: one that came, shut", court.wouldDrop(0, 5), 18);
        Due.is("21: one that went, shut", court.wouldDrop(0, 4), 18);
        Due.is("21: of one that is not watched", court.wouldDrop(1, 4), 0);
        Due.is("21: nothing is changed", court.many(4), 18);
        Due.is("21: none went", court.many(9), 0);
    }

    /** Promise 22: "below 0: more". */
    private static void wouldSaveBelowZero() {
        ShapeCourt court = Courts.of(NONE, NONE);
        court.pair(0, 4, 1, 1, 0, false);
        court.adopt(0, 1);
        Due.is("22: two shapes for a pair", court.wouldSave(0), 6 - 5 - 8);
        int words = court.many(8);
        Due.is("22: nothing is changed", court.many(2), 2);
        court.settle(0);
        Due.is("22: so many more there are", court.many(8) - words, 7);
        court.make(1);
        court.pair(2, 4, 1, NONE, 0, false);
        court.remove(2, 4);
        court.pair(2, 4, 1, NONE, 0, false);
        Due.is("22: above 0, as they are there", court.wouldSave(2), 6 - 5);
    }

    /** Promise 22: "0 of one with a SHAPE". */
    private static void wouldSaveOfOneWithAShape() {
        ShapeCourt court = Courts.of(NONE);
        Due.is("22: without fields", court.wouldSave(0), 0);
        Courts.write(court, 0, 0, 1, 2, 3, 4, 5, 6, 7);
        Due.is("22: of eight fields", court.wouldSave(0), 0);
        court.write(0, 8, 1);
        Due.is("22: of nine it would stay loose", court.wouldSave(0), 0);
        court.remove(0, 0);
        Due.is("22: of eight again", court.wouldSave(0), 27 - 11 - 32);
    }

    /** Promise 23: none, and all of the 12. */
    private static void differsOfNoneAndAll() {
        ShapeCourt court = Courts.of(NONE, NONE, 0);
        for (int name = 0; name < 12; name++) {
            Due.is("23: by then", court.differs(0, 1), name);
            court.write(0, name, -999);
        }
        Due.is("23: all", court.differs(0, 1), 12);
        Due.is("23: all, the other way round", court.differs(1, 0), 12);
        Due.is("23: itself", court.differs(0, 0), 0);
        Due.is("23: one that has it as its parent", court.differs(0, 2), 0);
        court.write(2, 0, -998);
        court.write(2, 11, VOID);
        Due.is("23: the first and the last", court.differs(0, 2), 2);
        int[] bad = {-1, 3, LOW, HIGH};
        for (int object : bad) {
            Due.noIndex(court, "23: one " + object, () -> court.differs(object, 0));
            Due.noIndex(court, "23: other " + object, () -> court.differs(0, object));
        }
    }

    /** Promise 24: "which wraps around as a 64-bit integer". */
    private static void digestWrapsAround() {
        ShapeCourt court = Courts.of(NONE);
        int[] values = {
            // many()
            1, 0, 1, 0, 0, 0, 0, 0, 7, 0, 0,
            // ofObject()
            NONE, 0, 0, 0, 0, 0, 1, 3};
        BigInteger sum = BigInteger.valueOf(7615);
        for (int value : values) {
            sum = with(sum, value);
        }
        for (int name = 0; name < 12; name++) {
            int[] field = {VOID, 0, VOID, 0, 0, NONE, NONE, NONE};
            for (int value : field) {
                sum = with(sum, value);
            }
        }
        // wouldSave(), wouldDrop(), then ofShape(), then of each place ofPlace() and wouldCost().
        int[] last = {0, 0, NONE, NONE, 0, NONE, 0, 1, 0};
        for (int value : last) {
            sum = with(sum, value);
        }
        for (int k = 0; k < 42; k++) {
            sum = with(sum, k % 7 == 6 ? 5 : 0);
        }
        Due.is("24: it does not fit 64 bits", sum.bitLength() > 63, true);
        Due.is("24: its last 64 bits", court.digest(), sum.longValue());
    }

    private static BigInteger with(BigInteger d, int v) {
        return d.multiply(BigInteger.valueOf(31)).add(BigInteger.valueOf(v));
    }

    /** Promise 24: of no OBJECT, no SHAPE and no ENTRY there are the totals and the places alone. */
    private static void digestOfNothing() {
        BigInteger sum = BigInteger.valueOf(7615);
        for (int k = 0; k < 11 + 6 * 6; k++) {
            sum = with(sum, 0);
        }
        Due.is("24: of nothing", new ShapeCourt().digest(), sum.longValue());
        ShapeCourt court = new ShapeCourt();
        Due.noIndex(court, "24: the same after a call that throws", () -> court.make(0));
        Due.is("24: twice the same", court.digest(), sum.longValue());
    }

    /** Promise 24: with all OBJECTS, SHAPES and ENTRIES that there can be, asked for one by one. */
    private static void digestOfAllThatThereIs() {
        ShapeCourt court = Courts.alone(24);
        Courts.fillWithShapes(court, 80);
        court.pair(0, 4, 5, 6, -9, true);
        court.define(1, 2, 1023, true, false);
        court.adopt(12, 11);
        court.adopt(11, 0);
        for (int place = 0; place < 6; place++) {
            for (int object = 0; object < 6; object++) {
                court.readAt(place, object, 11 - place);
            }
            Due.is("24: three entries", court.ofPlace(place, 0), 3);
        }
        Due.is("24: as one asks for it", court.digest(), DigestTest.madeUp(court));
    }
}
