/** Promises 10, 17 and 22: shapes that are shared and left, and what settling brings. */
public final class ShapesTest {
    private static final int NONE = Due.NONE;

    public static void main(String[] args) {
        sharesShapes();
        tellsShapes();
        leavesShapes();
        keepsShapes();
        hasEightFieldsAtMost();
        givesTheRootOfAnotherParent();
        settles();
        endsAtEightyShapes();
        settlesAsFarAsShapesReach();
        savesNothingBeyondEightFields();
        Due.end();
    }

    private static void sharesShapes() {
        ShapeCourt court = new ShapeCourt();
        for (int k = 0; k < 4; k++) {
            court.make(NONE);
        }
        court.write(0, 5, 1);
        court.write(0, 6, 1);
        court.write(1, 5, 2);
        court.write(1, 6, -1000);
        Due.is("17: the same order", Courts.shapeOf(court, 1), Courts.shapeOf(court, 0));
        court.write(2, 6, 1);
        court.write(2, 5, 1);
        Due.is("17: another order", Courts.shapeOf(court, 2) == Courts.shapeOf(court, 0), false);
        int shapes = court.many(2);
        court.define(3, 5, 1, false, true);
        Due.is("17: hidden is another one", court.many(2), shapes + 1);
        court.make(NONE);
        court.define(4, 5, 1, true, false);
        Due.is("17: fixed is another one", court.many(2), shapes + 2);
        court.make(NONE);
        court.pair(5, 5, 1, 1, 0, false);
        Due.is("17: a pair is another one", court.many(2), shapes + 3);
        court.make(NONE);
        court.pair(6, 5, 9, NONE, 44, false);
        Due.is("17: another getter is none", Courts.shapeOf(court, 6), Courts.shapeOf(court, 5));
    }

    private static void tellsShapes() {
        ShapeCourt court = new ShapeCourt();
        court.make(NONE);
        court.make(0);
        court.make(0);
        court.write(1, 7, 1);
        court.write(2, 7, 1);
        court.write(2, 3, 1);
        court.readAt(0, 1, 7);
        court.readAt(1, 1, 7);
        court.readAt(1, 1, 8);
        Due.row("17: root of NONE", Courts.shapeRow(court, 0), NONE, NONE, 0, NONE, 0, 1, 0);
        Due.row("17: root of 0", Courts.shapeRow(court, 1), NONE, 0, 0, NONE, 1, 0, 0);
        Due.row("17: beneath that", Courts.shapeRow(court, 2), 1, 0, 1, 7, 1, 1, 3);
        Due.row("17: beneath that one", Courts.shapeRow(court, 3), 2, 0, 2, 3, 0, 1, 0);
        Due.is("18: shapes that none has", court.many(10), 1);
        Due.noIndex(court, "17: shape 4", () -> court.ofShape(4, 0));
        Due.noIndex(court, "17: shape first", () -> court.ofShape(-1, 9));
        Due.noArgument(court, "17: what 7", () -> court.ofShape(3, 7));
        Due.noArgument(court, "17: what -1", () -> court.ofShape(3, -1));
    }

    private static void leavesShapes() {
        ShapeCourt court = new ShapeCourt();
        for (int k = 0; k < 6; k++) {
            court.make(NONE);
            court.write(k, 5, 1);
            court.write(k, 6, 1);
        }
        court.remove(0, 6);
        Due.is("7: loose as a field goes", Courts.shapeOf(court, 0), NONE);
        court.define(1, 5, 1, true, false);
        Due.is("5: loose as it is fixed", Courts.shapeOf(court, 1), NONE);
        court.define(2, 5, 1, false, true);
        Due.is("5: loose as it is hidden", Courts.shapeOf(court, 2), NONE);
        court.pair(3, 5, 1, NONE, 0, false);
        Due.is("6: loose as it is a pair", Courts.shapeOf(court, 3), NONE);
        court.adopt(4, 0);
        Due.is("8: loose with another parent", Courts.shapeOf(court, 4), NONE);
        court.shut(5, true);
        Due.is("9: loose as it is frozen", Courts.shapeOf(court, 5), NONE);
        Due.is("18: loose ones", court.many(3), 6);
        court.settle(3);
        court.define(3, 5, 1, false, false);
        Due.is("5: loose as it is a pair no more", Courts.shapeOf(court, 3), NONE);
        court.settle(2);
        court.define(2, 5, 1, false, false);
        Due.is("5: loose as it is hidden no more", Courts.shapeOf(court, 2), NONE);
        court.write(2, 9, 1);
        Due.is("4: loose ones stay loose", Courts.shapeOf(court, 2), NONE);
    }

    private static void keepsShapes() {
        ShapeCourt court = new ShapeCourt();
        court.make(NONE);
        court.write(0, 5, 1);
        court.pair(0, 6, 1, 2, 3, true);
        int shape = Courts.shapeOf(court, 0);
        court.write(0, 5, 1000);
        court.define(0, 5, 4, false, false);
        court.pair(0, 6, 4, NONE, -3, true);
        court.remove(0, 7);
        court.adopt(0, NONE);
        court.shut(0, false);
        Due.is("17: a value, a getter, n alone is none", Courts.shapeOf(court, 0), shape);
    }

    private static void hasEightFieldsAtMost() {
        ShapeCourt court = new ShapeCourt();
        court.make(NONE);
        for (int name = 0; name < 8; name++) {
            court.write(0, name, 1);
        }
        Due.is("17: eight fields", court.ofShape(Courts.shapeOf(court, 0), 2), 8);
        court.write(0, 8, 1);
        Due.is("17: nine fields", Courts.shapeOf(court, 0), NONE);
        Due.is("17: no shape came", court.many(2), 9);
        Due.is("10: nine fields", court.settle(0), false);
        court.remove(0, 8);
        Due.is("22: back to eight", court.wouldSave(0), 16);
        Due.is("10: back to eight", court.settle(0), true);
        Due.is("10: the same shape again", Courts.shapeOf(court, 0), 8);
        Due.is("18: words", court.many(8), 3 + 8 + 9 * 4);
    }

    private static void givesTheRootOfAnotherParent() {
        ShapeCourt court = new ShapeCourt();
        court.make(NONE);
        court.make(NONE);
        court.adopt(1, 0);
        Due.is("8: a new root", Courts.shapeOf(court, 1), 1);
        Due.is("8: of the parent", court.ofShape(1, 1), 0);
        court.adopt(1, NONE);
        Due.is("8: the root of NONE again", Courts.shapeOf(court, 1), 0);
        court.write(1, 4, 1);
        court.remove(1, 4);
        court.adopt(1, 0);
        Due.is("8: a loose one stays loose", Courts.shapeOf(court, 1), NONE);
        Due.is("10: settles to the root", court.settle(1), true);
        Due.is("10: which that is", Courts.shapeOf(court, 1), 1);
    }

    private static void settles() {
        ShapeCourt court = new ShapeCourt();
        court.make(NONE);
        court.make(NONE);
        court.write(0, 4, 1);
        court.write(0, 5, 1);
        Due.is("10: one with a shape", court.settle(0), true);
        Due.is("22: one with a shape", court.wouldSave(0), 0);
        court.write(1, 5, 1);
        court.write(1, 4, 1);
        court.remove(1, 5);
        court.pair(1, 5, 0, 1, 0, false);
        // The root, and the shape of 4, are there; that with the pair is not.
        int words = court.many(8);
        Due.is("22: two fields, a pair among them", court.wouldSave(1), 9 - 6 - 4);
        Due.is("10: settles", court.settle(1), true);
        Due.is("22: as it was said", words - court.many(8), -1);
        Due.is("10: beneath the shape of 4", court.ofShape(Courts.shapeOf(court, 1), 0), 1);
        Due.is("10: no field is touched", court.ofField(1, 5, 0), 2);
        court.adopt(1, 0);
        Due.is("22: even its root is missing", court.wouldSave(1), 9 - 6 - 12);
        Due.is("10: settles beneath the new root", court.settle(1), true);
        Due.is("10: three came", court.many(2), 9);
        Due.noIndex(court, "10: object", () -> court.settle(2));
        Due.noIndex(court, "22: object", () -> court.wouldSave(2));
        Due.noIndex(court, "22: object -1", () -> court.wouldSave(-1));
    }

    private static void endsAtEightyShapes() {
        ShapeCourt court = Courts.alone(12);
        Courts.fillWithShapes(court, 79);
        court.define(10, 0, 1, true, false);
        Due.is("17: the eightieth", Courts.shapeOf(court, 10), 79);
        court.define(11, 0, 1, false, true);
        Due.is("17: loose as none can come", Courts.shapeOf(court, 11), NONE);
        Due.is("17: still eighty", court.many(2), 80);
        Due.is("2: an object still comes", court.make(NONE), 12);
        Due.is("2: its root is there", Courts.shapeOf(court, 12), 0);
        court.make(5);
        Due.is("2: loose without its root", Courts.shapeOf(court, 13), NONE);
        Due.is("10: stays loose", court.settle(13), false);
        Due.is("22: saves nothing", court.wouldSave(13), 0);
        court.adopt(12, 5);
        Due.is("8: loose without the root", Courts.shapeOf(court, 12), NONE);
        court.make(NONE);
        court.write(14, 0, 1);
        Due.is("17: one that is there is had", Courts.shapeOf(court, 14), 1);
        court.write(14, 1, 1);
        Due.is("17: and the next", Courts.shapeOf(court, 14), 2);
        court.write(14, 0, 5);
        Due.is("17: a value alone is none", Courts.shapeOf(court, 14), 2);
    }

    private static void settlesAsFarAsShapesReach() {
        ShapeCourt court = Courts.alone(12);
        court.write(11, 0, 1);
        court.pair(11, 1, 2, 2, 0, true);
        court.pair(11, 2, 3, 3, 0, true);
        court.adopt(11, 10);
        Due.is("8: loose", Courts.shapeOf(court, 11), NONE);
        Courts.fillWithShapes(court, 78);
        int words = court.many(8);
        Due.is("22: those that come by then", court.wouldSave(11), -8);
        Due.is("10: stays loose", court.settle(11), false);
        Due.is("10: those that came stay", court.many(2), 80);
        Due.is("10: the last one's name", court.ofShape(79, 3), 0);
        Due.is("22: as it was said", words - court.many(8), -8);
        Due.is("22: no more come", court.wouldSave(11), 0);
        Due.is("10: loose again", court.settle(11), false);
        court.remove(11, 1);
        court.remove(11, 2);
        Due.is("22: its shapes are there", court.wouldSave(11), 6 - 4);
        Due.is("10: settles at last", court.settle(11), true);
    }

    private static void savesNothingBeyondEightFields() {
        ShapeCourt court = new ShapeCourt();
        court.make(NONE);
        for (int name = 0; name < 9; name++) {
            court.write(0, name, 1);
        }
        Due.is("22: nine fields", court.wouldSave(0), 0);
        Due.is("14: words of a loose one", court.ofObject(0, 7), 30);
    }
}
