/** Section 1 of 'Terms': each sentence that names a boundary case, in the order of the document. */
public final class ObjectEdgesTest {
    private static final int NONE = Due.NONE;
    private static final int VOID = Due.VOID;
    private static final int LOW = Integer.MIN_VALUE;
    private static final int HIGH = Integer.MAX_VALUE;

    public static void main(String[] args) {
        atMost24Objects();
        namesAre0To11();
        noNameBelowOrAbove();
        numericOnesAre0To3();
        valuesFrom999Below();
        valuesOfObjectsThatThereAre();
        noValueBelowOrAbove();
        oneFieldOfAName();
        onlyPlainOnesAreFixed();
        pairsHaveOneOrBoth();
        nFrom99Below();
        shutLetsNoFieldCome();
        shutLeavesTheOthersBe();
        noRings();
        readsTheFirstOfTheLine();
        readsVoidWithoutAny();
        readsVoidWithoutAGetter();
        readsOfTheOneFromWhichOneReads();
        holdsWhatIsRead();
        raisesNumbersAloneOnReading();
        refusedWithoutASetter();
        writesToTheOneToWhichOneWrites();
        holdsWhatIsWritten();
        raisesNumbersAloneOnWriting();
        refusedWhenFixed();
        itsOwnHoldsTheValue();
        anotherComesNeitherFixedNorHidden();
        refusedWhenShut();
        aSeventhGetter();
        aSeventhSetter();
        Due.end();
    }

    /** "At most 24 OBJECTS, numbered from 0, each with a PARENT (another OBJECT, or NONE)." */
    private static void atMost24Objects() {
        ShapeCourt court = new ShapeCourt();
        for (int k = 0; k < 24; k++) {
            Due.is("2: numbered from 0", court.make(NONE), k);
            Due.is("2: its parent", court.ofObject(k, 0), NONE);
            Due.is("2: so many then", court.many(0), k + 1);
        }
        Due.throwsOn(court, "2: 24 are there", IllegalStateException.class, () -> court.make(NONE));
        Due.throwsOn(court, "2: 24 are there, of the last", IllegalStateException.class, () -> court.make(23));
        Due.is("2: 23 is no parent by that", court.ofObject(23, 4), 0);
        Due.is("2: still 24", court.many(0), 24);
        Due.noIndex(court, "2: and no 24th number", () -> court.read(24, 0));
    }

    /** "NAMES are 0 to 11": each of them is one of its own, and one of a GETTER and a SETTER. */
    private static void namesAre0To11() {
        ShapeCourt court = Courts.of(NONE, NONE);
        for (int name = 0; name < 12; name++) {
            Due.is("4: name " + name, court.write(0, name, name), true);
            Due.is("6: getter and setter " + name, court.pair(1, name, name, name, 0, false), true);
        }
        for (int name = 0; name < 12; name++) {
            Due.is("3: name " + name, court.read(0, name), name);
            Due.row("15: pair " + name, Courts.fieldRow(court, 1, name), 2, VOID, 0, 0, name, name, name);
            Due.is("11: name " + name, court.readAt(0, 0, name), name);
            Due.is("20: name " + name, court.wouldCost(1, 0, name), 5);
            Due.is("21: name " + name, court.wouldDrop(0, name), 0);
            Due.is("7: name " + name, court.remove(0, name), true);
        }
        Due.is("18: all gone but the pairs", court.many(1), 12);
    }

    private static void noNameBelowOrAbove() {
        ShapeCourt court = Courts.of(NONE);
        int[] bad = {-1, 12, LOW, HIGH};
        for (int name : bad) {
            Due.noIndex(court, "3: name " + name, () -> court.read(0, name));
            Due.noIndex(court, "4: name " + name, () -> court.write(0, name, 0));
            Due.noIndex(court, "5: name " + name, () -> court.define(0, name, 0, false, false));
            Due.noIndex(court, "6: name " + name, () -> court.pair(0, name, 1, 1, 0, false));
            Due.noIndex(court, "7: name " + name, () -> court.remove(0, name));
            Due.noIndex(court, "11: name " + name, () -> court.readAt(0, 0, name));
            Due.noIndex(court, "15: name " + name, () -> court.ofField(0, name, 0));
            Due.noIndex(court, "20: name " + name, () -> court.wouldCost(0, 0, name));
            Due.noIndex(court, "21: name " + name, () -> court.wouldDrop(0, name));
        }
        int[] badOfPairs = {-2, 12, LOW, HIGH};
        for (int name : badOfPairs) {
            Due.noArgument(court, "6: getter " + name, () -> court.pair(0, 0, name, 0, 0, false));
            Due.noArgument(court, "6: setter " + name, () -> court.pair(0, 0, 0, name, 0, false));
            Due.noArgument(court, "6: getter alone " + name, () -> court.pair(0, 0, name, NONE, 0, false));
            Due.noArgument(court, "6: setter alone " + name, () -> court.pair(0, 0, NONE, name, 0, false));
        }
    }

    /** "0 to 3 are NUMERIC": 3 is listed ahead of what came before it, and 4 is not. */
    private static void numericOnesAre0To3() {
        ShapeCourt court = Courts.of(NONE);
        Courts.write(court, 0, 5, 4, 3, 0);
        Due.row("16: 0 and 3 are numeric, 4 is not", Courts.listRow(court, 0), 0, 3, 5, 4);
    }

    /** "A VALUE is a number from -999 to 999 ... or -1000, which is VOID." */
    private static void valuesFrom999Below() {
        ShapeCourt court = Courts.of(NONE);
        int[] good = {-1000, -999, -998, -1, 0, 1, 998, 999};
        for (int value : good) {
            Due.is("4: " + value, court.write(0, 4, value), true);
            Due.is("3: " + value, court.read(0, 4), value);
            Due.is("5: " + value, court.define(0, 5, value, false, false), true);
            Due.is("3: defined " + value, court.read(0, 5), value);
        }
        court.write(0, 4, VOID);
        Due.row("15: VOID is held by a field", Courts.fieldRow(court, 0, 4), 1, VOID, 0, 0, NONE, NONE, 0);
    }

    /** "1000 and a number for that OBJECT" (of an OBJECT that there is). */
    private static void valuesOfObjectsThatThereAre() {
        ShapeCourt court = Courts.of(NONE);
        Due.is("4: of itself", court.write(0, 4, 1000), true);
        Due.noArgument(court, "4: of none yet", () -> court.write(0, 4, 1001));
        Due.noArgument(court, "5: of none yet", () -> court.define(0, 4, 1001, false, false));
        court.make(NONE);
        Due.is("4: of one that came", court.write(0, 4, 1001), true);
        Due.is("3: of one that came", court.read(0, 4), 1001);
        Due.is("5: of one that came", court.define(0, 4, 1001, true, false), true);
        ShapeCourt full = Courts.alone(24);
        Due.is("4: of the last of all", full.write(0, 4, 1023), true);
        Due.noArgument(full, "4: beyond the last of all", () -> full.write(0, 4, 1024));
        Due.noArgument(full, "5: beyond the last of all", () -> full.define(0, 4, 1024, false, false));
    }

    private static void noValueBelowOrAbove() {
        ShapeCourt court = Courts.of(NONE, NONE);
        int[] bad = {-1001, -1002, 1002, LOW, LOW + 1000, HIGH, HIGH - 1000};
        for (int value : bad) {
            Due.noArgument(court, "4: value " + value, () -> court.write(0, 0, value));
            Due.noArgument(court, "5: value " + value, () -> court.define(0, 0, value, false, false));
        }
    }

    /** "An OBJECT has at most one FIELD of a NAME." */
    private static void oneFieldOfAName() {
        ShapeCourt court = Courts.of(NONE);
        Courts.write(court, 0, 4, 4);
        court.define(0, 4, 2, false, false);
        Due.is("14: written twice, and defined", court.ofObject(0, 1), 1);
        court.pair(0, 4, 5, 5, 0, false);
        Due.is("14: a pair in its place", court.ofObject(0, 1), 1);
        Due.row("16: listed once", Courts.listRow(court, 0), 4);
        Due.is("18: of all", court.many(1), 1);
    }

    /** "a PLAIN one, that holds a VALUE, and can be FIXED; or a PAIR": that can not. */
    private static void onlyPlainOnesAreFixed() {
        ShapeCourt court = Courts.of(NONE);
        court.pair(0, 4, 5, 5, 0, false);
        Due.is("9: of a pair alone none", court.shut(0, true), 0);
        Due.is("15: it is not fixed", court.ofField(0, 4, 2), 0);
        Due.is("6: it can be another pair", court.pair(0, 4, 6, 6, 1, true), true);
        Due.is("5: it can be plain", court.define(0, 4, 1, true, true), true);
        Due.row("15: fixed and hidden", Courts.fieldRow(court, 0, 4), 1, 1, 1, 1, NONE, NONE, 0);
    }

    /** "a PAIR, with a GETTER, a SETTER, or both" (both are NONE: no). */
    private static void pairsHaveOneOrBoth() {
        ShapeCourt court = Courts.of(NONE);
        Due.noArgument(court, "6: neither, as none is there", () -> court.pair(0, 4, NONE, NONE, 0, false));
        Due.is("6: a getter alone", court.pair(0, 4, 0, NONE, 0, false), true);
        Due.row("15: a getter alone", Courts.fieldRow(court, 0, 4), 2, VOID, 0, 0, 0, NONE, 0);
        Due.is("6: a setter alone", court.pair(0, 4, NONE, 0, 0, false), true);
        Due.row("15: a setter alone", Courts.fieldRow(court, 0, 4), 2, VOID, 0, 0, NONE, 0, 0);
        Due.is("6: both", court.pair(0, 4, 11, 11, 0, false), true);
        Due.row("15: both", Courts.fieldRow(court, 0, 4), 2, VOID, 0, 0, 11, 11, 0);
        Due.noArgument(court, "6: neither, in place of both", () -> court.pair(0, 4, NONE, NONE, 0, false));
    }

    /** "an n (-99 to 99)". */
    private static void nFrom99Below() {
        ShapeCourt court = Courts.of(NONE);
        Courts.write(court, 0, 5);
        int[] good = {-99, -98, 0, 98, 99};
        for (int n : good) {
            Due.is("6: n " + n, court.pair(0, 4, 5, NONE, n, false), true);
            Due.is("3: n " + n, court.read(0, 4), 1 + n);
        }
        int[] bad = {-100, 100, LOW, HIGH};
        for (int n : bad) {
            Due.noArgument(court, "6: n " + n, () -> court.pair(0, 4, 5, NONE, n, false));
            Due.is("3: the n of before", court.read(0, 4), 100);
        }
    }

    /** "An OBJECT can be SHUT (no FIELD comes to it any more)." */
    private static void shutLetsNoFieldCome() {
        ShapeCourt court = Courts.of(NONE, 0);
        Courts.write(court, 0, 4);
        court.write(1, 6, 6);
        court.pair(1, 7, NONE, 8, 0, false);
        court.shut(1, false);
        Due.is("4: none of that name", court.write(1, 5, 1), false);
        Due.is("4: a plain one of the parent", court.write(1, 4, 9), false);
        Due.is("4: by a setter", court.write(1, 7, 9), false);
        Due.is("5: none of its own", court.define(1, 4, 9, false, false), false);
        Due.is("6: none of its own", court.pair(1, 4, 5, 5, 0, false), false);
        Due.is("7: one goes", court.remove(1, 6), true);
        Due.is("4: it does not come again", court.write(1, 6, 6), false);
        Due.is("5: it is not defined again", court.define(1, 6, 6, false, false), false);
        Due.is("6: it is no pair again", court.pair(1, 6, 5, 5, 0, false), false);
        Due.is("14: fields", court.ofObject(1, 1), 1);
        Due.is("3: the parent's holds what it held", court.read(0, 4), 1);
    }

    private static void shutLeavesTheOthersBe() {
        ShapeCourt court = Courts.of(NONE, 0, 1);
        court.shut(1, true);
        Due.is("4: its parent is not shut", court.write(0, 4, 1), true);
        Due.is("4: one beneath it is not shut", court.write(2, 4, 2), true);
        Due.is("14: not shut", court.ofObject(0, 3) + court.ofObject(2, 3), 0);
        Due.is("2: it can be a parent", court.make(1), 3);
        Due.is("8: another one may adopt it", court.adopt(0, NONE), true);
        Due.is("9: frozen without fields", court.shut(1, true), 0);
        Due.is("9: later it is not open again", court.shut(1, false), 0);
        Due.is("14: still shut", court.ofObject(1, 3), 1);
    }

    /** "The LINE of an OBJECT: it, its PARENT, and so on (there are no rings)." */
    private static void noRings() {
        ShapeCourt court = Courts.of(NONE, 0, 1, 2);
        for (int parent = 0; parent < 4; parent++) {
            Due.is("8: 0 beneath " + parent, court.adopt(0, parent), false);
        }
        Due.is("8: 1 beneath its child", court.adopt(1, 2), false);
        Due.is("8: 1 beneath the child's child", court.adopt(1, 3), false);
        Due.is("8: 3 beneath itself", court.adopt(3, 3), false);
        Due.is("14: 0 has no parent", court.ofObject(0, 0), NONE);
        Due.is("14: 1 has its parent", court.ofObject(1, 0), 0);
        Due.is("14: 3 has its parent", court.ofObject(3, 0), 2);
        Due.is("14: 3 is watched by no refused call", court.ofObject(3, 4), 0);
        Due.is("8: beneath one further up is no ring", court.adopt(3, 0), true);
        Due.is("8: beneath one beside it is no ring", court.adopt(1, 3), true);
        Due.is("14: its line", court.ofObject(2, 6), 4);
        ShapeCourt longest = Courts.alone(24);
        for (int k = 1; k < 24; k++) {
            Due.is("8: in a long line", longest.adopt(k, k - 1), true);
        }
        Due.is("8: the longest ring", longest.adopt(0, 23), false);
        Due.is("14: the longest line", longest.ofObject(23, 6), 24);
    }

    /** "the first one of its LINE with a FIELD of that NAME". */
    private static void readsTheFirstOfTheLine() {
        ShapeCourt court = Courts.of(NONE, 0, 1);
        court.write(0, 4, 10);
        Due.is("3: two up", court.read(2, 4), 10);
        court.define(1, 4, 11, true, true);
        Due.is("3: one up, though hidden", court.read(2, 4), 11);
        court.define(2, 4, VOID, false, false);
        Due.is("3: its own, though VOID", court.read(2, 4), VOID);
        court.remove(2, 4);
        Due.is("3: one up again", court.read(2, 4), 11);
        court.pair(2, 4, NONE, 5, 0, false);
        Due.is("3: its own, though without a getter", court.read(2, 4), VOID);
    }

    /** "VOID without one." */
    private static void readsVoidWithoutAny() {
        ShapeCourt court = Courts.of(NONE, 0);
        court.write(1, 4, 7);
        Due.is("3: the child's is none of its parent", court.read(0, 4), VOID);
        Due.is("3: another name", court.read(1, 5), VOID);
        Due.is("11: another name", court.readAt(0, 1, 5), VOID);
        court.pair(1, 6, 5, NONE, 3, false);
        Due.is("3: a getter to nothing", court.read(1, 6), VOID);
    }

    /** "a PAIR: VOID without a GETTER". */
    private static void readsVoidWithoutAGetter() {
        ShapeCourt court = Courts.of(NONE, 0);
        court.write(0, 4, 7);
        court.pair(1, 4, NONE, 4, 9, false);
        Due.is("3: the parent's field is not gone on to", court.read(1, 4), VOID);
        Due.is("11: at a place", court.readAt(0, 1, 4), VOID);
        court.pair(1, 5, 4, NONE, 9, false);
        Due.is("3: a getter of one without a getter", court.read(1, 5), VOID);
    }

    /** "of the OBJECT from which one READS (not of that which has the PAIR)". */
    private static void readsOfTheOneFromWhichOneReads() {
        ShapeCourt court = Courts.of(NONE, 0, 1);
        court.pair(0, 4, 5, NONE, 2, false);
        court.write(0, 5, 100);
        court.write(2, 5, 300);
        Due.is("3: of the child", court.read(2, 4), 302);
        Due.is("3: of one between", court.read(1, 4), 102);
        court.pair(1, 5, 6, NONE, 1, false);
        court.write(2, 6, 40);
        Due.is("3: its own field first", court.read(2, 4), 302);
        court.remove(2, 5);
        Due.is("3: two getters, of the child still", court.read(2, 4), 43);
    }

    /** "n more, held to -999 to 999". */
    private static void holdsWhatIsRead() {
        int[] values = {999, 999, 998, 900, 901, -999, -999, -998, -900, -901, 0, -50};
        int[] ns = {0, 99, 1, 99, 99, 0, -99, -1, -99, -99, -99, 99};
        int[] due = {999, 999, 999, 999, 999, -999, -999, -999, -999, -999, -99, 49};
        ShapeCourt court = Courts.of(NONE);
        for (int k = 0; k < values.length; k++) {
            court.write(0, 5, values[k]);
            court.pair(0, 4, 5, NONE, ns[k], false);
            Due.is("3: " + values[k] + " and " + ns[k], court.read(0, 4), due[k]);
            Due.is("11: " + values[k] + " and " + ns[k], court.readAt(0, 0, 4), due[k]);
        }
        court.write(0, 5, 990);
        court.pair(0, 4, 5, NONE, 20, false);
        court.pair(0, 6, 4, NONE, -20, false);
        Due.is("3: held at each one", court.read(0, 6), 979);
    }

    /** "and, if that is a number, n more". */
    private static void raisesNumbersAloneOnReading() {
        ShapeCourt court = Courts.alone(24);
        int[] others = {VOID, 1000, 1001, 1023};
        int[] ns = {-99, -1, 1, 99};
        for (int value : others) {
            court.write(0, 5, value);
            for (int n : ns) {
                court.pair(0, 4, 5, NONE, n, false);
                Due.is("3: " + value + " and " + n, court.read(0, 4), value);
            }
        }
    }

    /** "A PAIR: it is REFUSED without a SETTER". */
    private static void refusedWithoutASetter() {
        ShapeCourt court = Courts.of(NONE, 0);
        court.pair(0, 4, 5, NONE, 0, false);
        Due.is("4: its own", court.write(0, 4, 1), false);
        Due.is("4: of the parent", court.write(1, 4, 1), false);
        court.pair(0, 6, NONE, 4, 0, false);
        Due.is("4: behind a setter", court.write(1, 6, 1), false);
        Due.is("18: nothing came", court.many(1), 2);
        Due.is("15: it is a pair still", court.ofField(0, 4, 0), 2);
    }

    /** "as to WRITE to the NAME of the SETTER, of the OBJECT to which one WRITES". */
    private static void writesToTheOneToWhichOneWrites() {
        ShapeCourt court = Courts.of(NONE, 0);
        court.pair(0, 4, NONE, 5, 2, false);
        court.write(0, 5, 50);
        Due.is("4: by the parent's setter", court.write(1, 4, 7), true);
        Due.is("15: it came to the child", court.ofField(1, 5, 1), 9);
        Due.is("15: not to the parent", court.ofField(0, 5, 1), 50);
        Due.is("15: nor in place of the pair", court.ofField(1, 4, 0), 0);
        court.pair(1, 5, NONE, 6, 30, false);
        Due.is("4: on by the child's own setter", court.write(1, 4, 7), true);
        Due.is("15: both ns", court.ofField(1, 6, 1), 39);
        Due.is("4: of the parent itself", court.write(0, 4, 7), true);
        Due.is("15: without the child's setter", court.ofField(0, 5, 1), 9);
    }

    /** "with n more, if the VALUE is a number, held likewise". */
    private static void holdsWhatIsWritten() {
        int[] values = {999, 999, 998, 900, 901, -999, -999, -998, -900, -901, 0, -50};
        int[] ns = {0, 99, 1, 99, 99, 0, -99, -1, -99, -99, -99, 99};
        int[] due = {999, 999, 999, 999, 999, -999, -999, -999, -999, -999, -99, 49};
        ShapeCourt court = Courts.of(NONE);
        for (int k = 0; k < values.length; k++) {
            court.pair(0, 4, NONE, 5, ns[k], false);
            Due.is("4: " + values[k], court.write(0, 4, values[k]), true);
            Due.is("4: " + values[k] + " and " + ns[k], court.read(0, 5), due[k]);
        }
        court.pair(0, 4, NONE, 6, 20, false);
        court.pair(0, 6, NONE, 7, -20, false);
        court.write(0, 4, 990);
        Due.is("4: held at each one", court.read(0, 7), 979);
    }

    private static void raisesNumbersAloneOnWriting() {
        ShapeCourt court = Courts.alone(24);
        int[] others = {VOID, 1000, 1001, 1023};
        int[] ns = {-99, -1, 1, 99};
        for (int value : others) {
            for (int n : ns) {
                court.pair(0, 4, NONE, 5, n, false);
                Due.is("4: " + value, court.write(0, 4, value), true);
                Due.is("4: " + value + " and " + n, court.read(0, 5), value);
            }
        }
    }

    /** "A PLAIN one that is FIXED: REFUSED." */
    private static void refusedWhenFixed() {
        ShapeCourt court = Courts.of(NONE, 0, 1);
        court.define(0, 4, 7, true, false);
        Due.is("4: its own", court.write(0, 4, 8), false);
        Due.is("4: the value of before, too", court.write(0, 4, 7), false);
        Due.is("4: two up", court.write(2, 4, 8), false);
        Due.is("3: it holds what it held", court.read(2, 4), 7);
        Due.is("14: none came", court.ofObject(2, 1), 0);
        court.pair(2, 5, NONE, 4, 0, false);
        Due.is("4: by a setter", court.write(2, 5, 8), false);
        Due.is("5: one between is no bar", court.define(1, 4, 9, false, false), true);
        Due.is("4: the first one counts", court.write(2, 4, 8), true);
        Due.is("5: its own, fixed", court.define(0, 4, 8, false, false), false);
        Due.is("6: its own, fixed", court.pair(0, 4, 5, 5, 0, false), false);
        Due.is("7: its own, fixed", court.remove(0, 4), false);
    }

    /** "A PLAIN one of the OBJECT itself: it holds the VALUE then" (though SHUT, or HIDDEN). */
    private static void itsOwnHoldsTheValue() {
        ShapeCourt court = Courts.of(NONE, 0);
        court.define(0, 4, 1, false, true);
        court.define(1, 4, 2, false, true);
        court.shut(1, false);
        Due.is("4: shut", court.write(1, 4, 3), true);
        Due.row("15: hidden still", Courts.fieldRow(court, 1, 4), 1, 3, 0, 1, NONE, NONE, 0);
        Due.is("3: the parent's is another one", court.read(0, 4), 1);
    }

    /** "a PLAIN FIELD of its own comes, neither FIXED nor HIDDEN, with the VALUE". */
    private static void anotherComesNeitherFixedNorHidden() {
        ShapeCourt court = Courts.of(NONE, 0);
        court.define(0, 4, 1, false, true);
        Due.is("4: a plain one of another one", court.write(1, 4, 5), true);
        Due.row("15: not hidden", Courts.fieldRow(court, 1, 4), 1, 5, 0, 0, NONE, NONE, 0);
        Due.row("15: the parent's as before", Courts.fieldRow(court, 0, 4), 1, 1, 0, 1, NONE, NONE, 0);
        Due.is("4: none at all", court.write(1, 5, VOID), true);
        Due.row("15: it holds VOID", Courts.fieldRow(court, 1, 5), 1, VOID, 0, 0, NONE, NONE, 1);
    }

    /** "REFUSED, if the OBJECT is SHUT". */
    private static void refusedWhenShut() {
        ShapeCourt court = Courts.of(NONE, 0);
        Courts.write(court, 0, 4);
        court.shut(0, false);
        Due.is("4: that of the parent alone is no bar", court.write(1, 5, 1), true);
        Due.is("4: nor for what the parent has", court.write(1, 4, 1), true);
        Due.is("4: none at all, shut", court.write(0, 5, 1), false);
        Due.is("14: fields of the shut one", court.ofObject(0, 1), 1);
    }

    /** "Of one READ, a 7th GETTER that would be gone on with is VOID instead (and costs nothing more)". */
    private static void aSeventhGetter() {
        ShapeCourt court = Courts.of(NONE, 0);
        for (int name = 4; name < 11; name++) {
            court.pair(0, name, name + 1, NONE, 1, false);
        }
        court.write(0, 11, 100);
        Due.is("3: one getter", court.read(1, 10), 101);
        Due.is("3: six", court.read(1, 5), 106);
        Due.is("3: seven", court.read(1, 4), VOID);
        Due.is("11: six", court.readAt(0, 1, 5), 106);
        Due.is("12: cost of six", court.ofPlace(0, 4), 4 + 2 + 6 * (2 + 2));
        Due.is("11: seven", court.readAt(0, 1, 4), VOID);
        Due.is("12: cost of seven", court.ofPlace(0, 4), 4 + 2 + 6 * (2 + 2));
        Due.is("20: seven on a hit", court.wouldCost(0, 1, 4), 1 + 6 * (2 + 2));
        court.remove(0, 11);
        Due.is("3: six to nothing", court.read(1, 5), VOID);
        Due.is("20: six to nothing", court.wouldCost(1, 1, 5), 4 + 2 + 6 * (2 + 2));
        court.pair(0, 11, NONE, 4, 0, false);
        Due.is("3: six, then none", court.read(1, 5), VOID);
        court.pair(1, 0, 0, NONE, 1, false);
        Due.is("3: one of itself", court.read(1, 0), VOID);
        Due.is("20: one of itself", court.wouldCost(1, 1, 0), 4 + 1 + 6 * (2 + 1));
    }

    /** "of one WRITE a 7th SETTER is REFUSED". */
    private static void aSeventhSetter() {
        ShapeCourt court = Courts.of(NONE, 0);
        for (int name = 4; name < 11; name++) {
            court.pair(0, name, NONE, name + 1, 1, false);
        }
        Due.is("4: seven", court.write(1, 4, 100), false);
        Due.is("4: seven, of the one that has them", court.write(0, 4, 100), false);
        Due.is("18: nothing came", court.many(1), 7);
        Due.is("4: six", court.write(1, 5, 100), true);
        Due.is("15: six times n", court.ofField(1, 11, 1), 106);
        court.pair(1, 0, NONE, 0, 1, false);
        Due.is("4: one of itself", court.write(1, 0, 1), false);
        court.pair(1, 1, NONE, 2, 1, false);
        court.pair(1, 2, NONE, 1, 1, false);
        Due.is("4: two of one another", court.write(1, 1, 1), false);
    }
}
