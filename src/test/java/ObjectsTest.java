/** Promises 1 to 9 and 23: objects, their fields, reading, writing, and what is REFUSED. */
public final class ObjectsTest {
    private static final int NONE = Due.NONE;
    private static final int VOID = Due.VOID;

    public static void main(String[] args) {
        aNewCourtIsEmpty();
        makes();
        refusesToMakeTooMany();
        readsAlongTheLine();
        readsThroughGetters();
        countsSixGetters();
        writes();
        writesThroughSetters();
        countsSixSetters();
        checksValues();
        defines();
        pairs();
        checksPairs();
        removes();
        adopts();
        shuts();
        freezes();
        differs();
        Due.end();
    }

    private static void aNewCourtIsEmpty() {
        ShapeCourt court = new ShapeCourt();
        for (int what = 0; what <= 10; what++) {
            Due.is("1: many of a new court, " + what, court.many(what), 0);
        }
        for (int place = 0; place < 6; place++) {
            Due.is("1: entries of a new court", court.ofPlace(place, 0), 0);
        }
        Due.noIndex(court, "1: no object 0", () -> court.read(0, 0));
    }

    private static void makes() {
        ShapeCourt court = new ShapeCourt();
        Due.is("2: first number", court.make(NONE), 0);
        Due.is("2: not watched yet", court.ofObject(0, 4), 0);
        Due.is("2: second number", court.make(0), 1);
        Due.is("2: third number", court.make(0), 2);
        Due.is("2: watched by make", court.ofObject(0, 4), 1);
        Due.is("2: parent", court.ofObject(2, 0), 0);
        Due.is("2: no fields", court.ofObject(2, 1), 0);
        Due.is("2: roots of NONE and 0", court.many(2), 2);
        Due.is("2: one root for both", court.ofObject(1, 2), court.ofObject(2, 2));
        Due.noIndex(court, "2: parent -2", () -> court.make(-2));
        Due.noIndex(court, "2: parent itself", () -> court.make(3));
    }

    private static void refusesToMakeTooMany() {
        ShapeCourt court = new ShapeCourt();
        for (int k = 0; k < 24; k++) {
            Due.is("2: number", court.make(k - 1), k);
        }
        Due.throwsOn(court, "2: a 25th", IllegalStateException.class, () -> court.make(NONE));
        Due.noIndex(court, "2: a 25th of no parent", () -> court.make(24));
        Due.is("2: line of 24", court.ofObject(23, 6), 24);
        court.write(0, 3, 7);
        Due.is("3: through a line of 24", court.read(23, 3), 7);
        Due.is("20: cost of a line of 24", court.wouldCost(0, 23, 3), 28);
    }

    private static void readsAlongTheLine() {
        ShapeCourt court = new ShapeCourt();
        court.make(NONE);
        court.make(0);
        court.write(0, 0, -999);
        Due.is("3: of the parent", court.read(1, 0), -999);
        court.write(1, 0, 999);
        Due.is("3: its own first", court.read(1, 0), 999);
        Due.is("3: the parent's stays", court.read(0, 0), -999);
        Due.is("3: without a field", court.read(1, 11), VOID);
        court.write(1, 11, 1001);
        Due.is("3: an object", court.read(1, 11), 1001);
        Due.noIndex(court, "3: object", () -> court.read(2, 0));
        Due.noIndex(court, "3: object -1", () -> court.read(-1, 0));
        Due.noIndex(court, "3: name 12", () -> court.read(0, 12));
        Due.noIndex(court, "3: name -1", () -> court.read(0, -1));
    }

    private static void readsThroughGetters() {
        ShapeCourt court = new ShapeCourt();
        court.make(NONE);
        court.make(0);
        court.pair(0, 4, 5, NONE, 99, false);
        court.write(0, 5, 1);
        court.write(1, 5, 2);
        Due.is("3: the getter reads of the object one reads", court.read(1, 4), 101);
        Due.is("3: and of the parent itself", court.read(0, 4), 100);
        court.write(1, 5, 950);
        Due.is("3: held to 999", court.read(1, 4), 999);
        court.pair(0, 4, 5, NONE, -99, false);
        court.write(1, 5, -950);
        Due.is("3: held to -999", court.read(1, 4), -999);
        court.write(1, 5, 1000);
        Due.is("3: an object stays as it is", court.read(1, 4), 1000);
        court.write(1, 5, VOID);
        Due.is("3: VOID stays VOID", court.read(1, 4), VOID);
        court.pair(0, 4, NONE, 5, 0, false);
        Due.is("3: no getter", court.read(1, 4), VOID);
        // The inner value is held before the outer n is added.
        court.pair(0, 6, 7, NONE, -50, false);
        court.pair(0, 7, 8, NONE, 60, false);
        court.write(0, 8, 980);
        Due.is("3: held at each getter", court.read(0, 6), 949);
    }

    private static void countsSixGetters() {
        ShapeCourt court = new ShapeCourt();
        court.make(NONE);
        for (int name = 0; name < 7; name++) {
            court.pair(0, name, name + 1, NONE, 1, false);
        }
        court.write(0, 7, 10);
        Due.is("3: six getters", court.read(0, 1), 16);
        Due.is("3: a seventh is VOID", court.read(0, 0), VOID);
        Due.is("20: six getters cost", court.wouldCost(0, 0, 1), 4 + 1 + 6 * 3);
        Due.is("20: a seventh costs nothing more", court.wouldCost(0, 0, 0), 4 + 1 + 6 * 3);
        court.pair(0, 8, 8, NONE, 1, false);
        Due.is("3: a getter of itself", court.read(0, 8), VOID);
        Due.is("20: a getter of itself", court.wouldCost(0, 0, 8), 4 + 1 + 6 * 3);
    }

    private static void writes() {
        ShapeCourt court = new ShapeCourt();
        court.make(NONE);
        court.make(0);
        Due.is("4: comes", court.write(0, 5, 7), true);
        Due.is("4: plain", court.ofField(0, 5, 0), 1);
        Due.is("4: neither fixed nor hidden", court.ofField(0, 5, 2) + court.ofField(0, 5, 3), 0);
        Due.is("4: comes to the child", court.write(1, 5, 8), true);
        Due.is("4: the parent keeps its own", court.read(0, 5), 7);
        court.define(0, 6, 1, true, false);
        Due.is("4: fixed in the parent", court.write(1, 6, 2), false);
        Due.is("4: nothing came", court.ofField(1, 6, 0), 0);
        Due.is("4: fixed itself", court.write(0, 6, 2), false);
        court.define(0, 7, 1, false, true);
        Due.is("4: hidden in the parent is no bar", court.write(1, 7, 2), true);
        Due.is("4: and not hidden then", court.ofField(1, 7, 3), 0);
        Due.is("4: its own hidden one", court.write(0, 7, 3), true);
        Due.is("4: stays hidden", court.ofField(0, 7, 3), 1);
        court.shut(1, false);
        Due.is("4: shut, none there", court.write(1, 8, 1), false);
        Due.is("4: shut, the parent has one", court.write(1, 6, 1), false);
        Due.is("4: shut, its own", court.write(1, 5, 9), true);
        Due.is("4: and it holds that", court.read(1, 5), 9);
    }

    private static void writesThroughSetters() {
        ShapeCourt court = new ShapeCourt();
        court.make(NONE);
        court.make(0);
        court.pair(0, 4, 9, 5, 90, false);
        Due.is("4: by a setter", court.write(1, 4, 5), true);
        Due.is("4: to the object one writes to", court.ofField(1, 5, 1), 95);
        Due.is("4: not to the one with the pair", court.ofField(0, 5, 0), 0);
        court.write(1, 4, 950);
        Due.is("4: held to 999", court.read(1, 5), 999);
        court.write(1, 4, VOID);
        Due.is("4: VOID", court.read(1, 5), VOID);
        court.write(1, 4, 1001);
        Due.is("4: an object", court.read(1, 5), 1001);
        court.pair(0, 4, 5, NONE, 0, false);
        Due.is("4: no setter", court.write(1, 4, 1), false);
        court.pair(0, 6, NONE, 7, -60, false);
        court.pair(0, 7, NONE, 8, 50, false);
        court.write(1, 6, -980);
        Due.is("4: held at each setter", court.read(1, 8), -949);
        court.shut(1, false);
        court.pair(0, 10, NONE, 11, 0, false);
        Due.is("4: shut behind a setter", court.write(1, 10, 1), false);
    }

    private static void countsSixSetters() {
        ShapeCourt court = new ShapeCourt();
        court.make(NONE);
        for (int name = 0; name < 7; name++) {
            court.pair(0, name, NONE, name + 1, 1, false);
        }
        Due.is("4: six setters", court.write(0, 1, 10), true);
        Due.is("4: six times n", court.read(0, 7), 16);
        Due.is("4: a seventh is refused", court.write(0, 0, 10), false);
        Due.is("4: and nothing is written", court.read(0, 7), 16);
    }

    private static void checksValues() {
        ShapeCourt court = new ShapeCourt();
        court.make(NONE);
        court.make(NONE);
        int[] good = {-1000, -999, 0, 999, 1000, 1001};
        int[] bad = {-1001, 1002, 1023, Integer.MIN_VALUE, Integer.MAX_VALUE};
        for (int value : good) {
            Due.is("4: good " + value, court.write(0, 0, value), true);
            Due.is("4: held " + value, court.read(0, 0), value);
            Due.is("5: good " + value, court.define(0, 1, value, false, false), true);
            Due.is("5: held " + value, court.read(0, 1), value);
        }
        for (int value : bad) {
            Due.noArgument(court, "4: bad " + value, () -> court.write(0, 0, value));
            Due.noArgument(court, "5: bad " + value, () -> court.define(0, 0, value, false, false));
            Due.noIndex(court, "4: object first", () -> court.write(2, 0, value));
            Due.noIndex(court, "4: name first", () -> court.write(0, 12, value));
            Due.noIndex(court, "5: object first", () -> court.define(-1, 0, value, false, false));
            Due.noIndex(court, "5: name first", () -> court.define(0, -1, value, false, false));
        }
    }

    private static void defines() {
        ShapeCourt court = new ShapeCourt();
        court.make(NONE);
        Due.is("5: comes", court.define(0, 2, 5, false, true), true);
        court.write(0, 3, 1);
        Due.is("5: in place of its own", court.define(0, 2, 6, true, false), true);
        Due.row("5: what it is then", Courts.fieldRow(court, 0, 2), 1, 6, 1, 0, NONE, NONE, 0);
        Due.is("5: fixed", court.define(0, 2, 6, true, false), false);
        court.pair(0, 3, 4, 5, 1, true);
        Due.is("5: in place of a pair", court.define(0, 3, 8, false, false), true);
        Due.row("5: a plain one then", Courts.fieldRow(court, 0, 3), 1, 8, 0, 0, NONE, NONE, 1);
        court.shut(0, false);
        Due.is("5: shut and none", court.define(0, 4, 8, false, false), false);
        Due.is("5: shut and one", court.define(0, 3, 9, false, false), true);
        court.make(0);
        Due.is("5: over a fixed one of the parent", court.define(1, 2, 1, false, false), true);
    }

    private static void pairs() {
        ShapeCourt court = new ShapeCourt();
        court.make(NONE);
        Due.is("6: comes", court.pair(0, 2, 3, NONE, -99, true), true);
        Due.row("6: what it is", Courts.fieldRow(court, 0, 2), 2, VOID, 0, 1, 3, NONE, 0);
        court.write(0, 5, 5);
        Due.is("6: anew", court.pair(0, 2, NONE, 11, 99, false), true);
        Due.row("6: what it is then", Courts.fieldRow(court, 0, 2), 2, VOID, 0, 0, NONE, 11, 0);
        Due.is("6: in place of a plain one", court.pair(0, 5, 0, 0, 0, false), true);
        Due.row("6: a pair then", Courts.fieldRow(court, 0, 5), 2, VOID, 0, 0, 0, 0, 1);
        court.define(0, 6, 1, true, false);
        Due.is("6: in place of a fixed one", court.pair(0, 6, 1, 1, 0, false), false);
        court.shut(0, true);
        Due.is("6: frozen, a pair", court.pair(0, 5, 1, 2, 3, false), true);
        Due.is("6: shut and none", court.pair(0, 7, 1, 2, 3, false), false);
    }

    private static void checksPairs() {
        ShapeCourt court = new ShapeCourt();
        court.make(NONE);
        Due.noArgument(court, "6: getter 12", () -> court.pair(0, 0, 12, 1, 0, false));
        Due.noArgument(court, "6: getter -2", () -> court.pair(0, 0, -2, 1, 0, false));
        Due.noArgument(court, "6: setter 12", () -> court.pair(0, 0, 1, 12, 0, false));
        Due.noArgument(court, "6: setter -2", () -> court.pair(0, 0, 1, -2, 0, false));
        Due.noArgument(court, "6: neither", () -> court.pair(0, 0, NONE, NONE, 0, false));
        Due.noArgument(court, "6: n 100", () -> court.pair(0, 0, 1, 1, 100, false));
        Due.noArgument(court, "6: n -100", () -> court.pair(0, 0, 1, 1, -100, false));
        Due.noIndex(court, "6: object first", () -> court.pair(1, 0, 12, 12, 100, false));
        Due.noIndex(court, "6: name first", () -> court.pair(0, 12, 12, 12, 100, false));
        court.define(0, 0, 1, true, false);
        Due.noArgument(court, "6: ahead of refusing", () -> court.pair(0, 0, 1, 1, 100, false));
        Due.noArgument(court, "5: ahead of refusing", () -> court.define(0, 0, 1001, true, false));
        Due.noArgument(court, "4: ahead of refusing", () -> court.write(0, 0, 1001));
    }

    private static void removes() {
        ShapeCourt court = new ShapeCourt();
        court.make(NONE);
        court.make(0);
        court.write(0, 4, 1);
        court.write(0, 5, 2);
        court.write(0, 6, 3);
        Due.is("7: none of its own", court.remove(1, 4), false);
        Due.is("7: one", court.remove(0, 4), true);
        Due.row("7: none then", Courts.fieldRow(court, 0, 4), 0, VOID, 0, 0, NONE, NONE, NONE);
        Due.is("7: read then", court.read(1, 4), VOID);
        Due.is("7: twice", court.remove(0, 4), false);
        Due.is("7: the others move up", court.ofField(0, 5, 6), 0);
        court.write(0, 4, 9);
        Due.is("7: comes again as the last", court.ofField(0, 4, 6), 2);
        court.shut(0, true);
        Due.is("7: fixed", court.remove(0, 4), false);
        court.pair(1, 8, 1, 1, 0, false);
        court.write(1, 9, 3);
        court.shut(1, true);
        Due.is("7: a pair of a frozen one", court.remove(1, 8), true);
        Due.is("7: may not come again", court.write(1, 8, 1), false);
        court.make(NONE);
        court.write(2, 4, 1);
        court.shut(2, false);
        Due.is("7: a plain one of a shut one", court.remove(2, 4), true);
        Due.noIndex(court, "7: object", () -> court.remove(3, 4));
        Due.noIndex(court, "7: name", () -> court.remove(2, 12));
    }

    private static void adopts() {
        ShapeCourt court = new ShapeCourt();
        court.make(NONE);
        court.make(0);
        court.make(1);
        court.make(NONE);
        Due.is("8: itself", court.adopt(1, 1), false);
        Due.is("8: a ring", court.adopt(0, 2), false);
        Due.is("8: the parent stays", court.ofObject(0, 0), NONE);
        Due.is("8: another one", court.adopt(1, 3), true);
        Due.is("8: its line", court.ofObject(2, 6), 3);
        Due.is("8: watched", court.ofObject(3, 4), 1);
        Due.is("8: was watched once", court.ofObject(0, 4), 1);
        Due.is("8: children of the old one", court.ofObject(0, 5), 0);
        Due.is("8: NONE", court.adopt(1, NONE), true);
        court.shut(1, false);
        Due.is("8: shut", court.adopt(1, 0), false);
        Due.is("8: shut, the same", court.adopt(1, NONE), true);
        court.shut(2, false);
        Due.is("8: shut, the same object", court.adopt(2, 1), true);
        Due.is("8: shut, to NONE", court.adopt(2, NONE), false);
        Due.noIndex(court, "8: object", () -> court.adopt(4, 0));
        Due.noIndex(court, "8: parent", () -> court.adopt(0, 4));
        Due.noIndex(court, "8: parent -2", () -> court.adopt(0, -2));
    }

    private static void shuts() {
        ShapeCourt court = new ShapeCourt();
        court.make(NONE);
        court.write(0, 1, 1);
        int shape = court.ofObject(0, 2);
        Due.is("9: shut only", court.shut(0, false), 0);
        Due.is("9: is shut", court.ofObject(0, 3), 1);
        Due.is("9: keeps its shape", court.ofObject(0, 2), shape);
        Due.is("9: not fixed", court.ofField(0, 1, 2), 0);
        Due.is("9: again", court.shut(0, false), 0);
        Due.noIndex(court, "9: object", () -> court.shut(1, true));
        Due.noIndex(court, "9: object -1", () -> court.shut(-1, false));
    }

    private static void freezes() {
        ShapeCourt court = new ShapeCourt();
        court.make(NONE);
        court.make(0);
        court.write(0, 1, 1);
        court.define(0, 2, 2, true, false);
        court.define(0, 3, 3, false, true);
        court.pair(0, 4, 1, 1, 0, false);
        court.write(1, 1, 1);
        Due.is("9: frozen", court.shut(0, true), 2);
        Due.is("9: fixed", court.ofField(0, 1, 2), 1);
        Due.row("9: fixed and hidden", Courts.fieldRow(court, 0, 3), 1, 3, 1, 1, NONE, NONE, 2);
        Due.is("9: a pair is not", court.ofField(0, 4, 2), 0);
        Due.is("9: of the child none", court.ofField(1, 1, 2), 0);
        Due.is("9: loose by that", court.ofObject(0, 2), NONE);
        Due.is("9: again", court.shut(0, true), 0);
        court.settle(0);
        Due.is("9: frozen again", court.shut(0, true), 0);
        Due.is("9: keeps its shape then", court.ofObject(0, 2) != NONE, true);
        court.make(NONE);
        court.shut(2, true);
        Due.is("9: without fields it keeps its root", court.ofObject(2, 2), 0);
    }

    private static void differs() {
        ShapeCourt court = new ShapeCourt();
        court.make(NONE);
        court.make(NONE);
        Due.is("23: both empty", court.differs(0, 1), 0);
        court.write(0, 0, 1);
        court.write(1, 0, 1);
        court.write(0, 11, 5);
        Due.is("23: one name", court.differs(0, 1), 1);
        court.pair(1, 11, 0, NONE, 4, false);
        Due.is("23: a getter that gives the same", court.differs(0, 1), 0);
        court.write(1, 5, VOID);
        Due.is("23: VOID is as none", court.differs(1, 0), 0);
        Due.is("23: itself", court.differs(1, 1), 0);
        Due.noIndex(court, "23: one", () -> court.differs(2, 0));
        Due.noIndex(court, "23: other", () -> court.differs(0, -1));
    }
}
