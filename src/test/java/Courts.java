/** Courts that several tests start from, and rows of what they answer. */
final class Courts {
    private static final int NONE = Due.NONE;

    private Courts() {
    }

    /** A court with an OBJECT of each of these PARENTS, in this order. */
    static ShapeCourt of(int... parents) {
        ShapeCourt court = new ShapeCourt();
        for (int parent : parents) {
            court.make(parent);
        }
        return court;
    }

    /** So many OBJECTS without a PARENT. */
    static ShapeCourt alone(int objects) {
        ShapeCourt court = new ShapeCourt();
        for (int k = 0; k < objects; k++) {
            court.make(NONE);
        }
        return court;
    }

    /** Lets the OBJECTS 0 to 9 have FIELDS, each in an order of its own, until there are so many SHAPES. */
    static void fillWithShapes(ShapeCourt court, int wanted) {
        for (int object = 0; object < 10; object++) {
            for (int k = 0; k < 8 && court.many(2) < wanted; k++) {
                court.write(object, (object + k) % 12, 1);
            }
        }
        Due.is("17: so many shapes", court.many(2), wanted);
    }

    /** Lets an OBJECT have PLAIN FIELDS of these NAMES, in this order. */
    static void write(ShapeCourt court, int object, int... names) {
        for (int name : names) {
            court.write(object, name, 1);
        }
    }

    static int shapeOf(ShapeCourt court, int object) {
        return court.ofObject(object, 2);
    }

    static int[] objectRow(ShapeCourt court, int object) {
        int[] row = new int[8];
        for (int what = 0; what < 8; what++) {
            row[what] = court.ofObject(object, what);
        }
        return row;
    }

    static int[] fieldRow(ShapeCourt court, int object, int name) {
        int[] row = new int[7];
        for (int what = 0; what < 7; what++) {
            row[what] = court.ofField(object, name, what);
        }
        return row;
    }

    static int[] shapeRow(ShapeCourt court, int shape) {
        int[] row = new int[7];
        for (int what = 0; what < 7; what++) {
            row[what] = court.ofShape(shape, what);
        }
        return row;
    }

    static int[] placeRow(ShapeCourt court, int place) {
        int[] row = new int[6];
        for (int what = 0; what < 6; what++) {
            row[what] = court.ofPlace(place, what);
        }
        return row;
    }

    static int[] entryRow(ShapeCourt court, int place, int k) {
        return new int[] {court.entry(place, k, 0), court.entry(place, k, 1), court.entry(place, k, 2)};
    }

    static int[] manyRow(ShapeCourt court) {
        int[] row = new int[11];
        for (int what = 0; what < 11; what++) {
            row[what] = court.many(what);
        }
        return row;
    }

    /** The LIST of an OBJECT, up to the place at which there is none. */
    static int[] listRow(ShapeCourt court, int object) {
        int[] row = new int[13];
        int size = 0;
        try {
            while (size < row.length) {
                row[size] = court.listed(object, size);
                size++;
            }
        } catch (IndexOutOfBoundsException e) {
            return java.util.Arrays.copyOf(row, size);
        }
        return row;
    }
}
