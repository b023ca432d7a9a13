/** Sections 3 and 4 of 'Terms': each sentence that names a boundary case, in the order of the document. */
public final class PlaceEdgesTest {
    private static final int NONE = Due.NONE;
    private static final int VOID = Due.VOID;

    public static void main(String[] args) {
        placesAre0To5();
        atMostThreeEntries();
        howFarUp();
        hitsByShapeAndName();
        missesByWhatIsLookedAt();
        noEntryOfALooseOne();
        gettersCostMore();
        watchedAtThatTimeOrEver();
        nothingGoesOfOneThatIsNotWatched();
        entriesGoByEachChange();
        entriesStayByWhatIsNoChange();
        entriesGoOfTheLineAlone();
        entriesGoAheadOfTheChange();
        entriesOfLooseOnesGo();
        goneEntriesLeaveRoom();
        listsNothing();
        listsNumericOnesFirst();
        listsNoneThatIsHidden();
        listsNoneThatIsAhead();
        words();
        Due.end();
    }

    /** "PLACES are 0 to 5, each with ENTRIES". */
    private static void placesAre0To5() {
        ShapeCourt court = Courts.of(NONE);
        for (int place = 0; place < 6; place++) {
            Due.row("12: place " + place, Courts.placeRow(court, place), 0, 0, 0, 0, 0, 0);
            court.readAt(place, 0, place);
            Due.row("12: read at " + place, Courts.placeRow(court, place), 1, 0, 1, 5, 5, 0);
            Due.is("13: entry of " + place, court.entry(place, 0, 1), place);
        }
        int[] bad = {-1, 6, Integer.MIN_VALUE, Integer.MAX_VALUE};
        for (int place : bad) {
            Due.noIndex(court, "11: place " + place, () -> court.readAt(place, 0, 0));
            Due.noIndex(court, "12: place " + place, () -> court.ofPlace(place, 0));
            Due.noIndex(court, "13: place " + place, () -> court.entry(place, 0, 0));
            Due.noIndex(court, "20: place " + place, () -> court.wouldCost(place, 0, 0));
        }
    }

    /** "at most 3 ... an ENTRY comes, as the last one (if there are 3, the first one goes)". */
    private static void atMostThreeEntries() {
        ShapeCourt court = Courts.of(NONE);
        for (int name = 0; name < 12; name++) {
            court.readAt(0, 0, name);
            int size = Math.min(name + 1, 3);
            Due.is("12: entries", court.ofPlace(0, 0), size);
            for (int k = 0; k < size; k++) {
                Due.is("13: the last ones", court.entry(0, k, 1), name + 1 - size + k);
            }
            Due.noIndex(court, "13: no more entries", () -> court.entry(0, size, 0));
        }
        Due.is("20: the first of three hits", court.wouldCost(0, 0, 9), 1);
        Due.is("20: the last of three hits", court.wouldCost(0, 0, 11), 1);
        Due.is("20: one that went misses", court.wouldCost(0, 0, 8), 5);
        court.readAt(0, 0, 9);
        Due.is("13: a hit leaves it the first", court.entry(0, 0, 1), 9);
        Due.is("12: none went because something was changed", court.ofPlace(0, 5), 0);
        Due.is("18: nor in all", court.many(9), 0);
    }

    /** "how far up the LINE the FIELD is (0: in the OBJECT itself; NONE: there is none)". */
    private static void howFarUp() {
        ShapeCourt court = new ShapeCourt();
        for (int k = 0; k < 24; k++) {
            court.make(k - 1);
        }
        court.write(23, 4, 1);
        court.write(0, 5, 1);
        court.readAt(0, 23, 4);
        court.readAt(0, 23, 5);
        court.readAt(0, 23, 6);
        Due.row("13: in itself", Courts.entryRow(court, 0, 0), 24, 4, 0);
        Due.row("13: as far up as can be", Courts.entryRow(court, 0, 1), 24, 5, 23);
        Due.row("13: there is none", Courts.entryRow(court, 0, 2), 24, 6, NONE);
        court.readAt(1, 0, 6);
        Due.row("13: none of one without a parent", Courts.entryRow(court, 1, 0), 25, 6, NONE);
        court.define(22, 7, 1, true, true);
        court.readAt(2, 23, 7);
        Due.row("13: hidden ones are there", Courts.entryRow(court, 2, 0), 24, 7, 1);
        court.pair(23, 8, NONE, 1, 0, false);
        court.readAt(3, 23, 8);
        Due.is("13: a pair without a getter is there", court.entry(3, 0, 2), 0);
    }

    /** "if the OBJECT has a SHAPE, and there is an ENTRY of that and of the NAME, it is a HIT, and the COST is 1". */
    private static void hitsByShapeAndName() {
        ShapeCourt court = Courts.of(NONE, NONE, NONE);
        Courts.write(court, 0, 4);
        Courts.write(court, 1, 4);
        Courts.write(court, 2, 4, 5);
        court.readAt(0, 0, 4);
        Due.is("20: the shape and the name", court.wouldCost(0, 1, 4), 1);
        Due.is("20: another shape", court.wouldCost(0, 2, 4), 5);
        Due.is("20: another name", court.wouldCost(0, 0, 5), 5);
        Due.is("20: another place", court.wouldCost(1, 0, 4), 5);
        court.readAt(0, 1, 4);
        Due.row("12: a hit", Courts.placeRow(court, 0), 1, 1, 1, 6, 1, 0);
        court.write(1, 4, 77);
        Due.is("11: the value is its own", court.readAt(0, 1, 4), 77);
        court.readAt(0, 0, 11);
        Due.is("11: a hit of none", court.readAt(0, 1, 11), VOID);
        Due.is("12: a hit of none", court.ofPlace(0, 4), 1);
    }

    /** "the COST is 4, and 1 more for each OBJECT of the LINE that is looked at". */
    private static void missesByWhatIsLookedAt() {
        ShapeCourt court = Courts.of(NONE, 0, 1);
        Courts.write(court, 0, 4);
        Courts.write(court, 1, 5);
        Courts.write(court, 2, 6);
        int[] due = {7, 6, 5, 7};
        for (int k = 0; k < 4; k++) {
            Due.is("20: name " + (4 + k), court.wouldCost(0, 2, 4 + k), due[k]);
            court.readAt(k, 2, 4 + k);
            Due.row("12: name " + (4 + k), Courts.placeRow(court, k), 1, 0, 1, due[k], due[k], 0);
        }
        Due.is("20: nothing in a line of one", court.wouldCost(0, 0, 7), 5);
    }

    /** "and, if the OBJECT has a SHAPE, an ENTRY comes". */
    private static void noEntryOfALooseOne() {
        ShapeCourt court = Courts.of(NONE, NONE);
        Courts.write(court, 0, 4, 5);
        Courts.write(court, 1, 4);
        court.readAt(0, 1, 4);
        court.remove(0, 5);
        for (int reads = 0; reads < 3; reads++) {
            Due.is("11: a loose one", court.readAt(0, 0, 4), 1);
        }
        Due.row("12: three misses, no entry", Courts.placeRow(court, 0), 1, 0, 4, 20, 5, 0);
        Due.is("10: it comes back", court.settle(0), true);
        court.readAt(0, 0, 4);
        Due.row("12: and hits", Courts.placeRow(court, 0), 1, 1, 4, 21, 1, 0);
    }

    /** "A GETTER costs 2 more, and what its NAME READS likewise ... (and so on)". */
    private static void gettersCostMore() {
        ShapeCourt court = Courts.of(NONE, 0);
        court.pair(1, 4, 5, NONE, 0, false);
        Due.is("20: to nothing", court.wouldCost(0, 1, 4), 4 + 1 + 2 + 2);
        court.pair(0, 5, 6, NONE, 0, false);
        Due.is("20: and on to nothing", court.wouldCost(0, 1, 4), 4 + 1 + 2 + 2 + 2 + 2);
        Courts.write(court, 1, 6);
        Due.is("20: and on to its own", court.wouldCost(0, 1, 4), 4 + 1 + 2 + 2 + 2 + 1);
        court.readAt(0, 1, 6);
        court.readAt(0, 1, 4);
        Due.is("12: as it was said", court.ofPlace(0, 4), 12);
        Due.is("12: entries of what was read there alone", court.ofPlace(0, 0), 2);
        Due.is("20: on a hit, no hit behind the getter", court.wouldCost(0, 1, 4), 1 + 2 + 2 + 2 + 1);
        court.pair(0, 5, NONE, 6, 0, false);
        Due.is("20: a pair without a getter costs none", court.wouldCost(1, 1, 4), 4 + 1 + 2 + 2);
        Due.is("20: a pair without a getter on a miss", court.wouldCost(1, 0, 5), 4 + 1);
    }

    /** "An OBJECT that is the PARENT of another one at that time, or was ever, is WATCHED." */
    private static void watchedAtThatTimeOrEver() {
        ShapeCourt court = Courts.of(NONE, NONE, 0, NONE);
        int[] due = {1, 0, 0, 0};
        for (int object = 0; object < 4; object++) {
            Due.is("14: watched by make, " + object, court.ofObject(object, 4), due[object]);
        }
        court.readAt(0, 2, 4);
        court.adopt(2, 1);
        Due.is("14: watched by adopt", court.ofObject(1, 4), 1);
        Due.is("14: it was ever", court.ofObject(0, 4), 1);
        Due.is("14: of no object by now", court.ofObject(0, 5), 0);
        Due.is("21: the entry of its root is there", court.wouldDrop(0, 4), 1);
        Courts.write(court, 0, 4);
        Due.is("12: it went", court.ofPlace(0, 5), 1);
        court.adopt(3, 3);
        Due.is("14: not by a ring", court.ofObject(3, 4), 0);
        court.shut(2, false);
        court.adopt(2, 3);
        Due.is("14: not by one that is shut", court.ofObject(3, 4), 0);
        court.adopt(2, 1);
        Due.is("14: by the same one as before", court.ofObject(1, 4), 1);
    }

    private static void nothingGoesOfOneThatIsNotWatched() {
        ShapeCourt court = Courts.of(NONE, 0);
        court.readAt(0, 1, 4);
        court.readAt(1, 0, 4);
        Due.is("21: of the child", court.wouldDrop(1, 4), 0);
        Courts.write(court, 1, 4);
        court.define(1, 4, 1, false, true);
        court.remove(1, 4);
        court.adopt(1, NONE);
        Due.is("18: nothing went", court.many(9), 0);
        Due.is("18: both are there", court.many(4), 2);
    }

    /** A parent 0 with a PLAIN 4, a PAIR 5 and a HIDDEN 6, its child 1, and an ENTRY of the child. */
    private static ShapeCourt watched() {
        ShapeCourt court = Courts.of(NONE, 0, NONE);
        court.define(0, 4, 1, false, false);
        court.pair(0, 5, 4, 4, 1, false);
        court.define(0, 6, 1, false, true);
        court.readAt(2, 1, 9);
        return court;
    }

    /** "As a FIELD comes to a WATCHED one, goes from it, or is made another one, or as its PARENT becomes another". */
    private static void entriesGoByEachChange() {
        for (int change = 0; change < 13; change++) {
            ShapeCourt court = watched();
            switch (change) {
                case 0: court.write(0, 11, 1); break;
                case 1: court.define(0, 11, 1, true, true); break;
                case 2: court.pair(0, 11, 1, 1, 0, true); break;
                case 3: court.remove(0, 4); break;
                case 4: court.remove(0, 5); break;
                case 5: court.define(0, 4, 1, true, false); break;
                case 6: court.define(0, 4, 1, false, true); break;
                case 7: court.pair(0, 4, 1, 1, 0, false); break;
                case 8: court.define(0, 5, 1, false, false); break;
                case 9: court.pair(0, 5, 4, 4, 1, true); break;
                case 10: court.define(0, 6, 1, false, false); break;
                case 11: court.shut(0, true); break;
                default: court.adopt(0, 2); break;
            }
            Due.row("12: change " + change, Courts.placeRow(court, 2), 0, 0, 1, 6, 6, 1);
            Due.is("18: change " + change, court.many(9), 1);
            Due.noIndex(court, "13: change " + change, () -> court.entry(2, 0, 0));
        }
    }

    private static void entriesStayByWhatIsNoChange() {
        ShapeCourt court = watched();
        court.write(0, 4, 9);
        court.define(0, 4, VOID, false, false);
        court.pair(0, 5, 6, 4, 1, false);
        court.pair(0, 5, 6, NONE, 1, false);
        court.pair(0, 5, 6, NONE, -1, false);
        court.define(0, 6, 9, false, true);
        court.remove(0, 9);
        court.adopt(0, NONE);
        court.adopt(0, 1);
        court.adopt(1, 0);
        court.make(0);
        court.make(1);
        court.settle(0);
        court.shut(0, false);
        court.write(0, 9, 9);
        court.define(0, 9, 9, false, false);
        court.pair(0, 9, 1, 1, 0, false);
        court.adopt(0, 2);
        court.write(2, 9, 9);
        Due.is("12: it is there", court.ofPlace(2, 0), 1);
        Due.is("18: none went", court.many(9), 0);
        court.shut(0, true);
        Due.is("18: frozen, it went", court.many(9), 1);
        court.readAt(2, 1, 9);
        court.shut(0, true);
        court.write(0, 4, 5);
        court.remove(0, 4);
        court.define(0, 4, 5, false, false);
        Due.is("18: fixed before, none went", court.many(9), 1);
    }

    /** "all ENTRIES go of which the ROOT is of this OBJECT, or of one in whose LINE it is then". */
    private static void entriesGoOfTheLineAlone() {
        ShapeCourt court = Courts.of(NONE, 0, 1, 2, NONE, 4);
        for (int object = 0; object < 6; object++) {
            court.readAt(object, object, 8);
        }
        int[] due = {3, 2, 1, 0, 1, 0};
        for (int object = 0; object < 6; object++) {
            Due.is("21: of " + object, court.wouldDrop(object, 3), due[object]);
        }
        Courts.write(court, 1, 3);
        int[] gone = {0, 0, 1, 1, 0, 0};
        for (int place = 0; place < 6; place++) {
            Due.is("12: of place " + place, court.ofPlace(place, 5), gone[place]);
            Due.is("12: left at place " + place, court.ofPlace(place, 0), 1 - gone[place]);
        }
        Courts.write(court, 3, 4);
        court.readAt(0, 3, 4);
        Due.is("21: a shape far beneath its root", court.wouldDrop(0, 3), 2);
        Courts.write(court, 0, 3);
        Due.is("18: went in all", court.many(9), 4);
        Due.is("18: those of NONE, and of the other line, are left", court.many(4), 3);
    }

    /** "in whose LINE it is then (ahead of the change)". */
    private static void entriesGoAheadOfTheChange() {
        ShapeCourt court = Courts.of(NONE, 0, 1, NONE);
        court.readAt(0, 1, 4);
        court.readAt(0, 2, 4);
        court.adopt(1, NONE);
        Due.row("12: that of its child goes, its own does not", Courts.placeRow(court, 0), 1, 0, 2, 13, 7, 1);
        Due.is("13: of the root of 0", court.ofShape(court.entry(0, 0, 0), 1), 0);
        court.readAt(1, 2, 4);
        Courts.write(court, 0, 4);
        Due.is("12: 1 is in its line no more", court.ofPlace(1, 5), 0);
        Due.is("12: its own root is", court.ofPlace(0, 5), 2);
        court.adopt(1, 3);
        Due.is("12: as it gets a parent", court.ofPlace(1, 5), 1);
        court.readAt(1, 2, 4);
        court.adopt(3, 0);
        Due.is("12: as the parent gets one", court.ofPlace(1, 5), 2);
    }

    private static void entriesOfLooseOnesGo() {
        ShapeCourt court = Courts.of(NONE, 0);
        Courts.write(court, 0, 4, 5);
        Courts.write(court, 1, 6);
        court.remove(0, 4);
        court.readAt(0, 1, 6);
        Due.is("21: of a loose watched one", court.wouldDrop(0, 7), 1);
        Courts.write(court, 1, 7);
        Due.is("12: the entry stays as its object leaves the shape", court.ofPlace(0, 0), 1);
        Courts.write(court, 0, 7);
        Due.is("12: it goes with a field of a loose one", court.ofPlace(0, 5), 1);
    }

    private static void goneEntriesLeaveRoom() {
        ShapeCourt court = Courts.of(NONE, 0);
        court.readAt(0, 0, 4);
        court.readAt(0, 1, 5);
        court.readAt(0, 0, 6);
        court.write(0, 9, 9);
        Due.row("12: one of three went", Courts.placeRow(court, 0), 2, 0, 3, 16, 5, 1);
        Due.row("13: the others move up", Courts.entryRow(court, 0, 0), 0, 4, NONE);
        Due.row("13: in their order", Courts.entryRow(court, 0, 1), 0, 6, NONE);
        court.readAt(0, 1, 5);
        Due.row("13: it comes as the last one", Courts.entryRow(court, 0, 2), 1, 5, NONE);
        Due.is("12: none was pushed out", court.ofPlace(0, 0), 3);
        Courts.write(court, 1, 8);
        court.readAt(0, 1, 8);
        court.readAt(0, 1, 9);
        Due.row("13: pushed up", Courts.entryRow(court, 0, 1), 3, 8, 0);
        Due.row("13: the last one", Courts.entryRow(court, 0, 2), 3, 9, 1);
        court.readAt(0, 1, 6);
        Due.row("13: pushed up again", Courts.entryRow(court, 0, 0), 3, 8, 0);
        Due.row("13: and this one", Courts.entryRow(court, 0, 1), 3, 9, 1);
        court.readAt(0, 1, 7);
        court.write(0, 10, 9);
        Due.is("12: all three went", court.ofPlace(0, 0), 0);
        Due.is("12: in all", court.ofPlace(0, 5), 4);
        Due.noIndex(court, "13: none left", () -> court.entry(0, 0, 0));
    }

    /** The LIST without any FIELD, and with none that is to be listed. */
    private static void listsNothing() {
        ShapeCourt court = Courts.of(NONE, 0);
        Due.noIndex(court, "16: no field", () -> court.listed(1, 0));
        court.define(0, 4, 1, false, true);
        Due.noIndex(court, "16: a hidden one", () -> court.listed(1, 0));
        court.define(0, 4, 1, false, false);
        Due.is("16: no longer hidden", court.listed(1, 0), 4);
        Due.noIndex(court, "16: one alone", () -> court.listed(1, 1));
        int[] bad = {-1, Integer.MIN_VALUE, Integer.MAX_VALUE};
        for (int k : bad) {
            Due.noIndex(court, "16: place " + k, () -> court.listed(1, k));
        }
    }

    /** "the NUMERIC NAMES of FIELDS, the smallest first, then the others in their ORDER" (of each of the LINE). */
    private static void listsNumericOnesFirst() {
        ShapeCourt court = Courts.of(NONE, 0);
        Courts.write(court, 0, 11, 3, 4, 2);
        Courts.write(court, 1, 10, 1, 5, 0);
        Due.row("16: of the parent", Courts.listRow(court, 0), 2, 3, 11, 4);
        Due.row("16: one behind the other", Courts.listRow(court, 1), 0, 1, 10, 5, 2, 3, 11, 4);
        court.pair(0, 0, 4, NONE, 1, false);
        court.define(0, 6, 1, true, false);
        Due.row("16: pairs and fixed ones", Courts.listRow(court, 0), 0, 2, 3, 11, 4, 6);
        court.remove(1, 0);
        Due.row("16: behind those of the child", Courts.listRow(court, 1), 1, 10, 5, 0, 2, 3, 11, 4, 6);
        ShapeCourt full = Courts.of(NONE, 0);
        Courts.write(full, 0, 11, 10, 9, 8, 7, 6, 5, 4, 3, 2, 1, 0);
        Courts.write(full, 1, 0, 1, 2, 3, 4, 5, 6, 7, 8, 9, 10, 11);
        Due.row("16: all", Courts.listRow(full, 0), 0, 1, 2, 3, 11, 10, 9, 8, 7, 6, 5, 4);
        Due.row("16: all, of the child", Courts.listRow(full, 1), 0, 1, 2, 3, 4, 5, 6, 7, 8, 9, 10, 11);
        Due.noIndex(full, "16: twelve at most", () -> full.listed(1, 12));
    }

    /** "but no NAME that is HIDDEN there" (there alone). */
    private static void listsNoneThatIsHidden() {
        ShapeCourt court = Courts.of(NONE, 0);
        Courts.write(court, 1, 4);
        court.define(1, 0, 1, false, true);
        court.pair(1, 5, 4, 4, 1, true);
        court.define(0, 4, 1, false, true);
        court.define(0, 6, 1, true, true);
        Due.row("16: of the parent", Courts.listRow(court, 0));
        Due.row("16: hidden in the parent alone", Courts.listRow(court, 1), 4);
    }

    /** "nor one of which one ahead in the LINE has a FIELD (HIDDEN or not)". */
    private static void listsNoneThatIsAhead() {
        ShapeCourt court = Courts.of(NONE, 0, 1);
        Courts.write(court, 0, 4, 5, 6, 3);
        Courts.write(court, 2, 5);
        court.define(1, 6, 1, false, true);
        court.define(1, 3, 1, false, true);
        Due.row("16: two ahead, and one that hides", Courts.listRow(court, 2), 5, 4);
        Due.row("16: of the one between", Courts.listRow(court, 1), 4, 5);
        court.define(2, 5, 1, false, true);
        Due.row("16: hidden two ahead", Courts.listRow(court, 2), 4);
        court.remove(1, 3);
        Due.row("16: no longer ahead", Courts.listRow(court, 2), 3, 4);
    }

    /** "WORDS": of nothing, of each kind of FIELD, SHAPE and ENTRY. */
    private static void words() {
        ShapeCourt court = new ShapeCourt();
        Due.is("18: of nothing", court.many(8), 0);
        court.make(NONE);
        Due.is("14: without fields", court.ofObject(0, 7), 3);
        Due.is("18: one and its root", court.many(8), 3 + 4);
        Courts.write(court, 0, 4);
        Due.is("14: a plain one", court.ofObject(0, 7), 4);
        court.pair(0, 5, NONE, 4, 0, true);
        Due.is("14: a pair", court.ofObject(0, 7), 6);
        Due.is("18: with three shapes", court.many(8), 6 + 12);
        court.readAt(0, 0, 4);
        court.readAt(5, 0, 4);
        Due.is("18: with two entries", court.many(8), 6 + 12 + 6);
        court.define(0, 4, 1, true, false);
        Due.is("14: loose, a plain one and a pair", court.ofObject(0, 7), 9);
        Due.is("18: loose", court.many(8), 9 + 12 + 6);
        court.remove(0, 5);
        Due.is("14: loose, a fixed one", court.ofObject(0, 7), 6);
        ShapeCourt pairs = Courts.of(NONE);
        for (int name = 0; name < 8; name++) {
            pairs.pair(0, name, 1, 1, 0, false);
            Due.is("14: a pair more, of name " + name, pairs.ofObject(0, 7), 3 + 2 * (name + 1));
        }
        pairs.pair(0, 8, 1, 1, 0, false);
        Due.is("14: loose, nine pairs", pairs.ofObject(0, 7), 3 + 27);
        ShapeCourt empty = Courts.of(NONE);
        Courts.write(empty, 0, 4);
        empty.remove(0, 4);
        Due.is("14: loose, without fields", empty.ofObject(0, 7), 3);
        Due.is("18: loose, without fields", empty.many(8), 3 + 8);
    }
}
