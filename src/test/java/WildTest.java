/** Promises 2 to 23, wrong inputs: whatever the arguments are, only what the document names is thrown. */
public final class WildTest {
    private static final int[] WILD = {Integer.MIN_VALUE, -1001, -1000, -2, -1, 0, 1, 2, 3, 5, 6, 7, 8, 11, 12, 23, 24,
        79, 80, 99, 100, 999, 1000, 1002, 1003, 1024, Integer.MAX_VALUE};
    private static long seed = 5;

    private static int wild() {
        seed = seed * 6364136223846793005L + 1442695040888963407L;
        return WILD[(int) ((seed >>> 33) % WILD.length)];
    }

    public static void main(String[] args) {
        for (int run = 0; run < 300; run++) {
            ShapeCourt court = new ShapeCourt();
            for (int k = 0; k < run % 8; k++) {
                court.make(k - 1);
            }
            for (int k = 0; k < 400; k++) {
                tryOne(court, k % 21);
            }
        }
        Due.end();
    }

    private static void tryOne(ShapeCourt court, int which) {
        int a = wild();
        int b = wild();
        int c = wild();
        int d = wild();
        int e = wild();
        long before = court.digest();
        try {
            call(court, which, a, b, c, d, e);
        } catch (IndexOutOfBoundsException | IllegalArgumentException | IllegalStateException thrown) {
            // The machine's own index exceptions are classes below the one that is named.
            String name = thrown.getClass().getSimpleName();
            boolean isNamed = name.equals("IndexOutOfBoundsException") && which != 16
                || name.equals("IllegalArgumentException") && takesMore(which)
                || name.equals("IllegalStateException") && which == 0;
            Due.is("call " + which + " may throw " + name, isNamed, true);
            Due.is("call " + which + " changed something as it threw", court.digest(), before);
        }
    }

    /** Whether the document names an IllegalArgumentException of this call. */
    private static boolean takesMore(int which) {
        return which >= 2 && which <= 4 || which >= 10 && which <= 13 || which == 15 || which == 16;
    }

    private static void call(ShapeCourt court, int which, int a, int b, int c, int d, int e) {
        switch (which) {
            case 0: court.make(a); break;
            case 1: court.read(a, b); break;
            case 2: court.write(a, b, c); break;
            case 3: court.define(a, b, c, d > 0, e > 0); break;
            case 4: court.pair(a, b, c, d, e, a + e > 0); break;
            case 5: court.remove(a, b); break;
            case 6: court.adopt(a, b); break;
            case 7: court.shut(a, b > 50); break;
            case 8: court.settle(a); break;
            case 9: court.readAt(a, b, c); break;
            case 10: court.ofPlace(a, b); break;
            case 11: court.entry(a, b, c); break;
            case 12: court.ofObject(a, b); break;
            case 13: court.ofField(a, b, c); break;
            case 14: court.listed(a, b); break;
            case 15: court.ofShape(a, b); break;
            case 16: court.many(a); break;
            case 17: court.wouldCost(a, b, c); break;
            case 18: court.wouldDrop(a, b); break;
            case 19: court.wouldSave(a); break;
            default: court.differs(a, b); break;
        }
    }
}
