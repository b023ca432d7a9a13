/** Section 2 of 'Terms': each sentence that names a boundary case, in the order of the document. */
public final class ShapeEdgesTest {
    private static final int NONE = Due.NONE;

    public static void main(String[] args) {
        numberedAsTheyCome();
        rootsOfEachParent();
        oneBeneathForEachKind();
        looseAsAFieldGoes();
        looseAsAFieldIsMadeAnother();
        notLooseByAValueAlone();
        looseByAnotherParent();
        looseByMoreThanEightFields();
        looseAsThereAreEighty();
        notLooseWhereNoneHasToCome();
        rootOfAnotherParentAtOnce();
        settlesOneOfEightFields();
        settlesOneOfNoFields();
        settlesInTheOrder();
        staysLooseAtEighty();
        theOrderOfFields();
        Due.end();
    }

    /** "SHAPES are numbered from 0, as they come, at most 80." */
    private static void numberedAsTheyCome() {
        ShapeCourt none = new ShapeCourt();
        Due.is("18: no shape", none.many(2), 0);
        Due.noIndex(none, "17: no shape 0", () -> none.ofShape(0, 0));
        ShapeCourt court = Courts.alone(11);
        Due.is("17: the first is 0", Courts.shapeOf(court, 0), 0);
        court.write(0, 0, 1);
        Due.is("17: the next is 1", Courts.shapeOf(court, 0), 1);
        Courts.fillWithShapes(court, 80);
        Due.is("17: the last is 79", court.ofShape(79, 2), 7);
        Due.noIndex(court, "17: there is no 80", () -> court.ofShape(80, 0));
        court.define(10, 11, 1, true, true);
        Due.is("18: no 81st comes", court.many(2), 80);
        Due.noIndex(court, "17: nor is there one then", () -> court.ofShape(80, 0));
    }

    /** "A ROOT is a SHAPE without FIELDS, of a PARENT (or of NONE)". */
    private static void rootsOfEachParent() {
        ShapeCourt court = Courts.of(NONE, NONE, 0, 0, 1);
        int[] due = {0, 0, 1, 1, 2};
        for (int object = 0; object < 5; object++) {
            Due.is("17: root of " + object, Courts.shapeOf(court, object), due[object]);
        }
        Due.row("17: root of NONE", Courts.shapeRow(court, 0), NONE, NONE, 0, NONE, 0, 2, 0);
        Due.row("17: root of 0", Courts.shapeRow(court, 1), NONE, 0, 0, NONE, 0, 2, 0);
        Due.row("17: root of 1", Courts.shapeRow(court, 2), NONE, 1, 0, NONE, 0, 1, 0);
        court.write(4, 6, 1);
        Due.row("17: beneath the root of 1", Courts.shapeRow(court, 3), 2, 1, 1, 6, 0, 1, 0);
        Due.is("17: at once beneath the root of 1", court.ofShape(2, 4), 1);
        court.write(4, 5, 1);
        Due.is("17: not at once is not counted", court.ofShape(2, 4), 1);
        court.write(2, 6, 1);
        Due.is("17: the same field beneath another root is another one", Courts.shapeOf(court, 2), 5);
    }

    /** "a FIELD more: a NAME, whether that is a PAIR, FIXED, HIDDEN". */
    private static void oneBeneathForEachKind() {
        ShapeCourt court = Courts.alone(14);
        for (int k = 0; k < 14; k++) {
            int kind = k % 7;
            if (kind < 4) {
                court.define(k, 5, k, (kind & 1) != 0, (kind & 2) != 0);
            } else if (kind < 6) {
                court.pair(k, 5, k < 7 ? 1 : NONE, 2, k, kind == 5);
            } else {
                court.write(k, 6, k);
            }
            Due.is("17: kind " + kind, Courts.shapeOf(court, k), kind + 1);
        }
        Due.is("17: seven beneath the root", court.ofShape(0, 4), 7);
        Due.is("18: none but these", court.many(2), 8);
        Due.is("18: the root alone has none", court.many(10), 1);
    }

    /** "LOOSE as soon as: a FIELD of it goes" (the last one it has, too). */
    private static void looseAsAFieldGoes() {
        ShapeCourt court = Courts.of(NONE);
        Courts.write(court, 0, 4);
        court.remove(0, 5);
        Due.is("7: none that goes", Courts.shapeOf(court, 0), 1);
        court.remove(0, 4);
        Due.is("7: its only one goes", Courts.shapeOf(court, 0), NONE);
        Due.is("14: words of a loose one without fields", court.ofObject(0, 7), 3);
        Courts.write(court, 0, 4);
        Due.is("4: loose though it comes again", Courts.shapeOf(court, 0), NONE);
        ShapeCourt fixed = Courts.of(NONE);
        fixed.define(0, 4, 1, true, false);
        fixed.remove(0, 4);
        Due.is("7: a refused one", Courts.shapeOf(fixed, 0), 1);
    }

    /** "a FIELD of it is made another one (it becomes a PAIR, FIXED or HIDDEN, or is that no more". */
    private static void looseAsAFieldIsMadeAnother() {
        for (int change = 0; change < 9; change++) {
            ShapeCourt court = Courts.of(NONE);
            boolean wasHidden = change == 3 || change == 5 || change == 7;
            boolean wasPair = change == 4 || change == 6 || change == 7;
            if (wasPair) {
                court.pair(0, 4, 5, 5, 0, wasHidden);
            } else {
                court.define(0, 4, 1, false, wasHidden);
            }
            switch (change) {
                case 0: court.define(0, 4, 1, true, false); break;
                case 1: court.define(0, 4, 1, false, true); break;
                case 2: court.pair(0, 4, 5, 5, 0, false); break;
                case 3: court.define(0, 4, 1, false, false); break;
                case 4: court.define(0, 4, 1, false, false); break;
                case 5: court.pair(0, 4, 5, 5, 0, true); break;
                case 6: court.pair(0, 4, 5, 5, 0, true); break;
                case 7: court.pair(0, 4, 5, 5, 0, false); break;
                default: court.shut(0, true); break;
            }
            Due.is("17: loose by change " + change, Courts.shapeOf(court, 0), NONE);
            Due.is("17: no shape comes by change " + change, court.many(2), 2);
        }
    }

    /** "another VALUE, GETTER, SETTER or n alone is none". */
    private static void notLooseByAValueAlone() {
        ShapeCourt court = Courts.of(NONE);
        court.define(0, 4, 1, false, true);
        court.pair(0, 5, 6, 7, 1, true);
        court.define(0, 8, 1, true, false);
        int shape = Courts.shapeOf(court, 0);
        court.write(0, 4, 2);
        court.define(0, 4, 3, false, true);
        court.define(0, 4, -1000, false, true);
        court.pair(0, 5, 7, 7, 1, true);
        court.pair(0, 5, 7, 6, 1, true);
        court.pair(0, 5, 7, 6, -9, true);
        court.pair(0, 5, NONE, 6, -9, true);
        court.pair(0, 5, 6, NONE, -9, true);
        court.pair(0, 8, 6, 7, 0, false);
        court.define(0, 8, 2, false, false);
        court.shut(0, false);
        Due.is("17: it has its shape", Courts.shapeOf(court, 0), shape);
    }

    /** "it has FIELDS, and its PARENT becomes another one". */
    private static void looseByAnotherParent() {
        ShapeCourt court = Courts.of(NONE, NONE, 0, 0);
        Courts.write(court, 2, 4);
        Courts.write(court, 3, 4);
        court.adopt(2, 0);
        Due.is("8: the same parent", Courts.shapeOf(court, 2), Courts.shapeOf(court, 3));
        court.adopt(2, 2);
        Due.is("8: a ring, refused", Courts.shapeOf(court, 2), Courts.shapeOf(court, 3));
        court.adopt(2, 1);
        Due.is("8: another one", Courts.shapeOf(court, 2), NONE);
        court.adopt(3, NONE);
        Due.is("8: none", Courts.shapeOf(court, 3), NONE);
        Due.is("8: no shape comes by that", court.many(2), 3);
        court.adopt(3, 0);
        Due.is("8: loose though it is as before", Courts.shapeOf(court, 3), NONE);
        court.shut(2, false);
        court.settle(2);
        int shape = Courts.shapeOf(court, 2);
        court.adopt(2, 0);
        Due.is("8: shut, refused", Courts.shapeOf(court, 2), shape);
    }

    /** "it has more than 8 FIELDS (no SHAPE has)". */
    private static void looseByMoreThanEightFields() {
        ShapeCourt court = Courts.of(NONE, NONE, NONE);
        Courts.write(court, 0, 0, 1, 2, 3, 4, 5, 6, 7);
        Due.is("17: eight fields", court.ofShape(Courts.shapeOf(court, 0), 2), 8);
        court.pair(0, 8, 1, 1, 0, false);
        Due.is("17: nine", Courts.shapeOf(court, 0), NONE);
        Courts.write(court, 0, 9, 10, 11);
        Due.is("17: twelve", Courts.shapeOf(court, 0), NONE);
        Due.is("18: no shape of more than eight", court.many(2), 9);
        Courts.write(court, 1, 0, 1, 2, 3, 4, 5, 6, 7);
        court.define(1, 11, 1, true, true);
        Due.is("17: nine by define", Courts.shapeOf(court, 1), NONE);
        Courts.write(court, 2, 0, 1, 2, 3, 4, 5, 6, 7);
        Courts.write(court, 2, 0);
        Due.is("17: a value alone is no ninth", Courts.shapeOf(court, 2), 8);
        Due.is("14: words of nine loose ones", court.ofObject(1, 7), 3 + 27);
        Due.is("14: words of eight with a shape", court.ofObject(2, 7), 3 + 8);
    }

    /** "or a SHAPE would have to come, and there are 80": by each call by which one comes. */
    private static void looseAsThereAreEighty() {
        ShapeCourt court = Courts.alone(15);
        Courts.fillWithShapes(court, 80);
        court.define(10, 4, 1, true, true);
        Due.is("5: loose", Courts.shapeOf(court, 10), NONE);
        court.pair(11, 4, 1, 1, 0, true);
        Due.is("6: loose", Courts.shapeOf(court, 11), NONE);
        Courts.write(court, 12, 11);
        Due.is("4: loose", Courts.shapeOf(court, 12), NONE);
        Due.is("4: but the field came", court.ofField(12, 11, 1), 1);
        court.adopt(13, 14);
        Due.is("8: loose", Courts.shapeOf(court, 13), NONE);
        Due.is("8: but it has its parent", court.ofObject(13, 0), 14);
        Due.is("2: one of a parent without a root", Courts.shapeOf(court, court.make(14)), NONE);
        Due.is("18: loose ones", court.many(3), 5);
        Due.is("18: eighty", court.many(2), 80);
    }

    private static void notLooseWhereNoneHasToCome() {
        ShapeCourt court = Courts.alone(12);
        Courts.fillWithShapes(court, 79);
        court.define(10, 4, 1, true, true);
        Due.is("17: the eightieth comes", Courts.shapeOf(court, 10), 79);
        court.define(11, 4, 2, true, true);
        Due.is("17: it is shared at eighty", Courts.shapeOf(court, 11), 79);
        int root = court.make(NONE);
        Due.is("17: the root is shared at eighty", Courts.shapeOf(court, root), 0);
        Courts.write(court, root, 0, 1, 2, 3, 4, 5, 6, 7);
        Due.is("17: eight fields at eighty", Courts.shapeOf(court, root), Courts.shapeOf(court, 0));
    }

    /** "One with a SHAPE and without FIELDS has the ROOT of another PARENT at once". */
    private static void rootOfAnotherParentAtOnce() {
        ShapeCourt court = Courts.of(NONE, NONE, 0, NONE);
        court.adopt(3, 0);
        Due.is("8: a root that is there", Courts.shapeOf(court, 3), 1);
        court.adopt(3, 1);
        Due.is("8: a root that comes", Courts.shapeOf(court, 3), 2);
        Due.is("17: of its parent", court.ofShape(2, 1), 1);
        court.adopt(3, NONE);
        Due.is("8: the root of NONE", Courts.shapeOf(court, 3), 0);
        Courts.write(court, 3, 4);
        court.remove(3, 4);
        court.adopt(3, 0);
        Due.is("8: without a shape it has none", Courts.shapeOf(court, 3), NONE);
        ShapeCourt full = Courts.alone(13);
        full.adopt(12, 11);
        Courts.fillWithShapes(full, 80);
        full.adopt(12, NONE);
        Due.is("8: at eighty, one that is there", Courts.shapeOf(full, 12), 0);
        full.adopt(12, 11);
        Due.is("8: at eighty, another that is there", Courts.shapeOf(full, 12), 1);
        full.adopt(12, 10);
        Due.is("8: at eighty, one that is not", Courts.shapeOf(full, 12), NONE);
        full.adopt(12, NONE);
        Due.is("8: and loose it stays", Courts.shapeOf(full, 12), NONE);
    }

    /** "To SETTLE a LOOSE one that has 8 FIELDS at most". */
    private static void settlesOneOfEightFields() {
        ShapeCourt court = Courts.of(NONE);
        Courts.write(court, 0, 11, 10, 9, 8, 7, 6, 5, 4, 3, 2);
        court.remove(0, 11);
        Due.is("10: nine fields", court.settle(0), false);
        Due.is("22: nine fields", court.wouldSave(0), 0);
        Due.is("10: loose still", Courts.shapeOf(court, 0), NONE);
        Due.is("10: no shape came", court.many(2), 9);
        court.remove(0, 2);
        Due.is("22: eight fields, eight shapes come", court.wouldSave(0), 27 - 11 - 8 * 4);
        Due.is("10: eight fields", court.settle(0), true);
        Due.is("10: the eighth of them", Courts.shapeOf(court, 0), 16);
        Due.is("17: its eight fields", court.ofShape(16, 2), 8);
        Due.is("10: with a shape already", court.settle(0), true);
        Due.is("10: nothing more comes", court.many(2), 17);
    }

    private static void settlesOneOfNoFields() {
        ShapeCourt court = Courts.of(NONE, NONE);
        Courts.write(court, 1, 4);
        court.remove(1, 4);
        Due.is("22: no field, the root is there", court.wouldSave(1), 0);
        Due.is("10: no field", court.settle(1), true);
        Due.is("10: the root", Courts.shapeOf(court, 1), 0);
        Courts.write(court, 1, 4);
        court.remove(1, 4);
        court.adopt(1, 0);
        Due.is("22: no field, the root has to come", court.wouldSave(1), -4);
        Due.is("10: the root comes", court.settle(1), true);
        Due.row("10: which that is", Courts.shapeRow(court, Courts.shapeOf(court, 1)), NONE, 0, 0, NONE, 0, 1, 0);
        Due.is("10: no object touched", court.ofObject(0, 1), 0);
    }

    /** "from the ROOT of its PARENT on, FIELD by FIELD, in their ORDER". */
    private static void settlesInTheOrder() {
        ShapeCourt court = Courts.of(NONE, 0, 0);
        Courts.write(court, 1, 4, 5, 3);
        court.remove(1, 4);
        court.define(1, 5, 1, false, true);
        court.pair(1, 4, 1, 1, 0, true);
        court.define(2, 5, 9, false, true);
        Courts.write(court, 2, 3);
        court.pair(2, 4, 7, NONE, 8, true);
        Due.is("10: those are there", court.wouldSave(1), 12 - 7);
        court.settle(1);
        Due.is("10: as one whose fields came so", Courts.shapeOf(court, 1), Courts.shapeOf(court, 2));
    }

    /** "if one would have to come, and there are 80, it stays LOOSE (those that came by then stay)". */
    private static void staysLooseAtEighty() {
        for (int free = 0; free <= 3; free++) {
            ShapeCourt court = Courts.alone(12);
            Courts.write(court, 11, 4, 5);
            court.adopt(11, 10);
            Courts.fillWithShapes(court, 80 - free);
            int words = court.many(8);
            int due = free == 3 ? 9 - 5 - 12 : -4 * free;
            Due.is("22: " + free + " can come", court.wouldSave(11), due);
            Due.is("10: " + free + " can come", court.settle(11), free == 3);
            Due.is("22: as it was said", words - court.many(8), due);
            Due.is("10: those that came stay", court.many(2), 80);
            Due.is("10: its shape", Courts.shapeOf(court, 11), free == 3 ? 79 : NONE);
            if (free > 0) {
                int[] root = {NONE, 10, 0, NONE, free > 1 ? 1 : 0, 0, 0};
                Due.row("10: the root came first", Courts.shapeRow(court, 80 - free), root);
            }
        }
    }

    /** "as they came (one that goes and comes again is the last one)". */
    private static void theOrderOfFields() {
        ShapeCourt court = Courts.of(NONE);
        Courts.write(court, 0, 9, 4, 7);
        for (int name = 0; name < 12; name++) {
            int due = name == 9 ? 0 : name == 4 ? 1 : name == 7 ? 2 : NONE;
            Due.is("15: place of " + name, court.ofField(0, name, 6), due);
        }
        court.define(0, 9, 5, false, true);
        court.pair(0, 4, 1, 1, 0, false);
        Due.is("5: it keeps its place", court.ofField(0, 9, 6), 0);
        Due.is("6: it keeps its place", court.ofField(0, 4, 6), 1);
        court.remove(0, 9);
        Due.is("7: it has none", court.ofField(0, 9, 6), NONE);
        Due.is("7: the next one's", court.ofField(0, 4, 6), 0);
        Courts.write(court, 0, 9);
        Due.is("4: it is the last one", court.ofField(0, 9, 6), 2);
        court.remove(0, 9);
        Courts.write(court, 0, 9);
        Due.row("16: gone and come as the last one", Courts.listRow(court, 0), 4, 7, 9);
    }
}
