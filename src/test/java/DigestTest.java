/** Promise 24: the digest is made up of what the other calls answer, in the document's order. */
public final class DigestTest {
    private static final int NONE = Due.NONE;

    public static void main(String[] args) {
        ShapeCourt court = new ShapeCourt();
        Due.is("24: a new court", court.digest(), -386734643320911775L);
        Due.is("24: a new court, made up", madeUp(court), court.digest());
        court.make(NONE);
        court.make(0);
        court.make(1);
        for (int name = 11; name > 2; name--) {
            court.write(0, name, name * 100 - 500);
        }
        court.pair(1, 4, 5, 6, 7, false);
        court.define(1, 2, 1000, true, true);
        court.write(2, 1, -7);
        court.write(2, 4, 9);
        court.readAt(0, 2, 4);
        court.readAt(0, 2, 4);
        court.readAt(0, 2, 11);
        court.readAt(3, 1, 4);
        Due.is("24: made up", madeUp(court), court.digest());
        court.remove(2, 1);
        court.shut(2, false);
        court.adopt(1, NONE);
        Due.is("24: made up of loose ones", madeUp(court), court.digest());
        long before = court.digest();
        Due.is("24: twice", court.digest(), before);
        court.readAt(3, 1, 4);
        Due.is("24: a hit more", court.digest() != before, true);
        Due.end();
    }

    static long madeUp(ShapeCourt court) {
        long d = 7615;
        for (int what = 0; what <= 10; what++) {
            d = d * 31 + court.many(what);
        }
        for (int object = 0; object < court.many(0); object++) {
            d = withObject(court, d, object);
        }
        for (int shape = 0; shape < court.many(2); shape++) {
            for (int what = 0; what <= 6; what++) {
                d = d * 31 + court.ofShape(shape, what);
            }
        }
        for (int place = 0; place < 6; place++) {
            for (int what = 0; what <= 5; what++) {
                d = d * 31 + court.ofPlace(place, what);
            }
            for (int k = 0; k < court.ofPlace(place, 0); k++) {
                for (int what = 0; what <= 2; what++) {
                    d = d * 31 + court.entry(place, k, what);
                }
            }
            for (int object = 0; object < court.many(0); object++) {
                d = d * 31 + court.wouldCost(place, object, 4);
            }
        }
        return d;
    }

    private static long withObject(ShapeCourt court, long start, int object) {
        long d = start;
        for (int what = 0; what <= 7; what++) {
            d = d * 31 + court.ofObject(object, what);
        }
        for (int name = 0; name < 12; name++) {
            d = d * 31 + court.read(object, name);
            for (int what = 0; what <= 6; what++) {
                d = d * 31 + court.ofField(object, name, what);
            }
        }
        for (int name : Courts.listRow(court, object)) {
            d = d * 31 + name;
        }
        d = d * 31 + court.wouldSave(object);
        return d * 31 + court.wouldDrop(object, 4);
    }
}
