/** Counts and prints what is not as it is due. */
final class Due {
    static final int NONE = -1;
    static final int VOID = -1000;
    private static int wrong = 0;

    interface Call {
        Object now();
    }

    private Due() {
    }

    static void is(String what, long got, long want) {
        if (got != want) {
            tell(what, Long.toString(got), Long.toString(want));
        }
    }

    static void is(String what, boolean got, boolean want) {
        if (got != want) {
            tell(what, Boolean.toString(got), Boolean.toString(want));
        }
    }

    static void isExactly(String what, double got, double want) {
        if (Double.compare(got, want) != 0) {
            tell(what, Double.toString(got), Double.toString(want));
        }
    }

    static void row(String what, int[] got, int... want) {
        if (!java.util.Arrays.equals(got, want)) {
            tell(what, java.util.Arrays.toString(got), java.util.Arrays.toString(want));
        }
    }

    /** The call throws just this class, and changes nothing. */
    static void throwsOn(ShapeCourt court, String what, Class<?> wanted, Call call) {
        long before = court.digest();
        String got = "nothing";
        try {
            call.now();
        } catch (RuntimeException e) {
            got = e.getClass().getName();
        }
        if (!got.equals(wanted.getName())) {
            tell(what, got, wanted.getName());
        }
        is(what + ", digest after it", court.digest(), before);
    }

    static void noIndex(ShapeCourt court, String what, Call call) {
        throwsOn(court, what, IndexOutOfBoundsException.class, call);
    }

    static void noArgument(ShapeCourt court, String what, Call call) {
        throwsOn(court, what, IllegalArgumentException.class, call);
    }

    static void tell(String what, String got, String want) {
        wrong++;
        System.out.println(what + " answered " + got + ", due is " + want);
    }

    static void end() {
        if (wrong > 0) {
            System.out.println(wrong + " answers are not as due");
            System.exit(1);
        }
    }
}
